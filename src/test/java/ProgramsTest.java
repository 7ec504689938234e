/** Promises 6 to 8, and 14 and 15: program, block, act, dominates, loop. */
public final class ProgramsTest {
    private static final Check CHECK = new Check();

    public static void main(String[] args) {
        programs();
        blocks();
        acts();
        dominance();
        heads();
        unreachable();
        CHECK.finish();
    }

    private static void programs() {
        KnownTurns x = Check.of("read a write a if a<5 1 2; if b<5 3 3; go 0; stop; if a<1 4 4;");
        int[] due = {5, 2, 3, 7, 4, 4, 1, 1, 1};
        for (int what = 0; what < 9; what++) {
            CHECK.due("program(0," + what + ")", x.program(0, what), what < 4 ? due[what] : -4);
            CHECK.due("program(1," + what + ")", x.program(1, what), due[what]);
        }
        CHECK.due("program(-1,0)", x.program(-1, 0), -1);
        CHECK.due("program(2,0)", x.program(2, 0), -1);
        CHECK.due("program(0,-1)", x.program(0, -1), -1);
        CHECK.due("program(0,9)", x.program(0, 9), -1);
        CHECK.due("program(1,9)", x.program(1, 9), -1);
        KnownTurns empty = new KnownTurns();
        for (int what = 0; what < 9; what++) {
            CHECK.due("program(1," + what + ") without blocks", empty.program(1, what), 0);
        }
    }

    private static void blocks() {
        KnownTurns x = Check.of("go 1;stop;if b<c 0 1;if d=49 3 2;");
        int[][] due = {{0, 1, 1, -4, -4, -4, -4, 0}, {0, 0, -4, -4, -4, -4, -4, 1},
            {0, 2, 0, 1, 1, 1, 2, 2}, {0, 3, 3, 2, 3, 0, 49, 3}};
        for (int b = 0; b < 4; b++) {
            for (int what = 0; what < 8; what++) {
                CHECK.due("block(0," + b + "," + what + ")", x.block(0, b, what), due[b][what]);
                CHECK.due("block(1," + b + "," + what + ")", x.block(1, b, what), due[b][what]);
            }
        }
        for (int p = 0; p < 2; p++) {
            CHECK.due("block of a missing block", x.block(p, 4, 0), -1);
            CHECK.due("block of a missing block", x.block(p, -1, 0), -1);
            CHECK.due("block of a wrong what", x.block(p, 0, 8), -1);
            CHECK.due("block of a wrong what", x.block(p, 0, -1), -1);
        }
        CHECK.due("block(2,0,0)", x.block(2, 0, 0), -1);
        CHECK.due("block(-1,0,0)", x.block(-1, 0, 0), -1);
        CHECK.due("block(0,MAX,0)", x.block(0, Integer.MAX_VALUE, 0), -1);
        CHECK.due("block(0,MIN,0)", x.block(0, Integer.MIN_VALUE, 0), -1);
    }

    private static void acts() {
        KnownTurns x = Check.of("set c 50 read d stop;stop;");
        for (int p = 0; p < 2; p++) {
            CHECK.due("kind", x.act(p, 0, 0, 0), 0);
            CHECK.due("v", x.act(p, 0, 0, 1), 2);
            CHECK.due("n", x.act(p, 0, 0, 2), 50);
            CHECK.due("n of read", x.act(p, 0, 1, 2), -4);
            CHECK.due("no third act", x.act(p, 0, 2, 0), -4);
            CHECK.due("no fifth act", x.act(p, 0, 4, 0), -4);
            CHECK.due("no such act", x.act(p, 0, Integer.MAX_VALUE, 0), -4);
            CHECK.due("no act at all", x.act(p, 1, 0, 0), -4);
            CHECK.due("negative index", x.act(p, 0, -1, 0), -1);
            CHECK.due("wrong what, no such act", x.act(p, 0, 9, 3), -1);
            CHECK.due("wrong what", x.act(p, 0, 0, -1), -1);
            CHECK.due("missing block", x.act(p, 2, 0, 0), -1);
            CHECK.due("missing block", x.act(p, -1, 0, 0), -1);
        }
        CHECK.due("act(2,..)", x.act(2, 0, 0, 0), -1);
        CHECK.due("act(-1,..)", x.act(-1, 0, 0, 0), -1);
    }

    private static void table(String text, String[] rows) {
        KnownTurns x = Check.of(text);
        for (int a = 0; a < rows.length; a++) {
            for (int b = 0; b < rows.length; b++) {
                CHECK.due("dominates(" + a + "," + b + ") of " + text, x.dominates(a, b), rows[a].charAt(b) - '0');
            }
        }
    }

    private static void immediate(String text, int... due) {
        KnownTurns x = Check.of(text);
        for (int b = 0; b < due.length; b++) {
            CHECK.due("loop(" + b + ",1) of " + text, x.loop(b, 1), due[b]);
        }
    }

    private static void dominance() {
        String diamond = "read a if a<5 1 2;go 3;go 3;go 4;stop;";
        table(diamond, new String[] {"11111", "01000", "00100", "00011", "00001"});
        immediate(diamond, -4, 0, 0, 0, 3);
        String chain = "go 2;stop;go 3;go 1;";
        table(chain, new String[] {"1111", "0100", "0111", "0101"});
        immediate(chain, -4, 3, 0, 2);
        // The edge to block 1 is shut, since a is nil, but it counts as an edge.
        immediate("if a<5 1 2;go 3;stop;stop;", -4, 0, 0, 1);
        KnownTurns x = Check.of(chain);
        CHECK.due("dominates(4,0)", x.dominates(4, 0), -1);
        CHECK.due("dominates(0,4)", x.dominates(0, 4), -1);
        CHECK.due("dominates(-1,0)", x.dominates(-1, 0), -1);
        CHECK.due("dominates(0,-1)", x.dominates(0, -1), -1);
        CHECK.due("loop(4,0)", x.loop(4, 0), -1);
        CHECK.due("loop(-1,1)", x.loop(-1, 1), -1);
        CHECK.due("loop(0,2)", x.loop(0, 2), -1);
        CHECK.due("loop(0,-1)", x.loop(0, -1), -1);
    }

    private static void headsOf(String text, int... due) {
        KnownTurns x = Check.of(text);
        int sum = 0;
        for (int b = 0; b < due.length; b++) {
            sum += due[b];
            CHECK.due("loop(" + b + ",0) of " + text, x.loop(b, 0), due[b]);
        }
        CHECK.due("program(1,6) of " + text, x.program(1, 6), sum);
    }

    private static void heads() {
        headsOf("go 0;", 1);
        headsOf("go 1;if a<5 1 2;stop;", 0, 1, 0);
        headsOf("go 1;go 2;if a<5 1 3;stop;", 0, 1, 0, 0);
        headsOf("go 1;go 2;if a<5 2 3;if b<5 1 4;stop;", 0, 1, 1, 0, 0);
        // A circle with two ways in has no head.
        headsOf("read a if a<5 1 2;go 2;go 1;", 0, 0, 0);
        headsOf("go 1;go 2;if a<5 0 1;", 1, 1, 0);
        headsOf("stop;go 1;", 0, 0);
        headsOf("stop;go 2;go 1;", 0, 0, 0);
    }

    private static void unreachable() {
        String text = "stop;go 2;go 0;";
        table(text, new String[] {"100", "000", "000"});
        immediate(text, -4, -4, -4);
        // Block 2 leads to block 1, but cannot be reached, so it does not count.
        immediate("go 1;stop;go 1;", -4, 0, -4);
        headsOf("go 1;stop;go 1;", 0, 0, 0);
    }
}
