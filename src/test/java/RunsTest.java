/** Promises 21 to 25 and 27: input, ran, wrote, path, saved, draw. */
public final class RunsTest {
    private static final Check CHECK = new Check();

    public static void main(String[] args) {
        inputs();
        withoutBlocks();
        actsOfARun();
        tests();
        reads();
        cuts();
        wrongArguments();
        savings();
        draws();
        CHECK.finish();
    }

    private static void ranIs(KnownTurns x, int p, int... due) {
        for (int what = 0; what < due.length; what++) {
            CHECK.due("ran(" + p + "," + what + ")", x.ran(p, what), due[what]);
        }
    }

    private static void inputs() {
        KnownTurns x = new KnownTurns();
        for (int i = 0; i < 8; i++) {
            CHECK.due("input at first", x.input(i, i), 51);
        }
        CHECK.due("input(7,50)", x.input(7, 50), 7);
        CHECK.due("input(7,51)", x.input(7, 51), 50);
        CHECK.due("input(7,0)", x.input(7, 0), 51);
        CHECK.due("input(8,0)", x.input(8, 0), -1);
        CHECK.due("input(-1,0)", x.input(-1, 0), -1);
        CHECK.due("input(0,52)", x.input(0, 52), -1);
        CHECK.due("input(0,-1)", x.input(0, -1), -1);
        CHECK.due("input(0,0)", x.input(0, 0), 0);
    }

    private static void withoutBlocks() {
        KnownTurns x = new KnownTurns();
        for (int p = 0; p < 2; p++) {
            ranIs(x, p, 0, 0, 0, 0, 1, 51, 51, 51, 51, 0);
            CHECK.due("wrote(" + p + ",0)", x.wrote(p, 0), -4);
            CHECK.due("path(" + p + ",0)", x.path(p, 0), -4);
        }
        CHECK.due("saved(1,10)", x.saved(1, 10), 0);
    }

    private static void actsOfARun() {
        KnownTurns x = Check.of("set a 48 add a 1 write a add a 5 go 1;write a sub a 49 write a sub a 5 go 2;"
            + "write a add b 3 write b go 3;read c move d c sub b 1 write d stop;");
        x.input(0, 33);
        for (int p = 0; p < 2; p++) {
            ranIs(x, p, 4, 15, 0, 6, 1, 0, 51, 33, 33, 1);
            int[] outputs = {49, 50, 1, 0, 51, 33, -4};
            for (int i = 0; i < outputs.length; i++) {
                CHECK.due("wrote(" + p + "," + i + ")", x.wrote(p, i), outputs[i]);
            }
            int[] path = {0, 1, 2, 3, -4};
            for (int i = 0; i < path.length; i++) {
                CHECK.due("path(" + p + "," + i + ")", x.path(p, i), path[i]);
            }
        }
    }

    private static void side(String test, int a, int b, int due) {
        KnownTurns x = Check.of("read a read b " + test + " 1 2;stop;stop;");
        x.input(0, a);
        x.input(1, b);
        CHECK.due(test + " of " + a + " and " + b, x.path(0, 1), due);
        CHECK.due("tests of " + test, x.ran(0, 2), 1);
    }

    private static void tests() {
        side("if a<5", 4, 0, 1);
        side("if a<5", 5, 0, 2);
        side("if a<5", 51, 0, 2);
        side("if a=5", 5, 0, 1);
        side("if a=5", 4, 0, 2);
        side("if a=5", 51, 0, 2);
        side("if a<b", 4, 5, 1);
        side("if a<b", 5, 5, 2);
        side("if a<b", 6, 5, 2);
        side("if a<b", 4, 51, 2);
        side("if a<b", 51, 5, 2);
        side("if a<b", 50, 51, 2);
        side("if a=b", 5, 5, 1);
        side("if a=b", 5, 4, 2);
        side("if a=b", 51, 51, 2);
        side("if a=b", 51, 5, 2);
        side("if a=a", 5, 0, 1);
        side("if a=a", 51, 0, 2);
        side("if a<a", 5, 0, 2);
    }

    private static void reads() {
        KnownTurns x = Check.of("read a write a go 0;");
        for (int i = 0; i < 8; i++) {
            x.input(i, 10 + i);
        }
        ranIs(x, 0, 60, 120, 0, 60, 0, 51, 51, 51, 51, 60);
        for (int i = 0; i < 60; i++) {
            CHECK.due("wrote(0," + i + ")", x.wrote(0, i), i < 8 ? 10 + i : 51);
        }
        CHECK.due("wrote(0,60)", x.wrote(0, 60), -4);
        CHECK.due("the inputs stay", x.input(7, 0), 17);
    }

    private static void cuts() {
        KnownTurns just = Check.of("set a 0 set b 0 go 1;add a 1 if a<50 1 2;add b 1 if b<8 2 3;stop;");
        ranIs(just, 0, 60, 60, 58, 0, 1, 50, 8, 51, 51, 0);
        CHECK.due("path(0,59)", just.path(0, 59), 3);
        CHECK.due("path(0,60)", just.path(0, 60), -4);
        KnownTurns cut = Check.of("set a 0 set b 0 go 1;add a 1 if a<50 1 2;add b 1 if b<9 2 3;write a stop;");
        ranIs(cut, 0, 60, 61, 59, 0, 0, 50, 9, 51, 51, 0);
        CHECK.due("path(0,59)", cut.path(0, 59), 2);
        KnownTurns much = Check.of("write a write b write c write d go 0;");
        ranIs(much, 1, 60, 240, 0, 240, 0);
        CHECK.due("wrote(1,239)", much.wrote(1, 239), 51);
        CHECK.due("wrote(1,240)", much.wrote(1, 240), -4);
    }

    private static void wrongArguments() {
        KnownTurns x = Check.of("write a stop;");
        CHECK.due("ran(2,0)", x.ran(2, 0), -1);
        CHECK.due("ran(-1,0)", x.ran(-1, 0), -1);
        CHECK.due("ran(0,10)", x.ran(0, 10), -1);
        CHECK.due("ran(0,-1)", x.ran(0, -1), -1);
        CHECK.due("wrote(2,0)", x.wrote(2, 0), -1);
        CHECK.due("wrote(-1,0)", x.wrote(-1, 0), -1);
        CHECK.due("wrote(0,-1)", x.wrote(0, -1), -1);
        CHECK.due("wrote(0,MAX)", x.wrote(0, Integer.MAX_VALUE), -4);
        CHECK.due("path(2,0)", x.path(2, 0), -1);
        CHECK.due("path(-1,0)", x.path(-1, 0), -1);
        CHECK.due("path(0,-1)", x.path(0, -1), -1);
        CHECK.due("path(0,MAX)", x.path(0, Integer.MAX_VALUE), -4);
        CHECK.due("saved(0,0)", x.saved(0, 0), -1);
        CHECK.due("saved(0,11)", x.saved(0, 11), -1);
        CHECK.due("saved(0,-1)", x.saved(0, -1), -1);
        CHECK.due("draw(0,0)", x.draw(0, 0), -1);
        CHECK.due("draw(0,9)", x.draw(0, 9), -1);
        CHECK.due("draw(0,-1)", x.draw(0, -1), -1);
        CHECK.due("nothing changed", x.program(0, 0), 1);
    }

    /** How many of the first inputs of n runs are below x, by the document's draws. */
    private static int firstInputsBelow(int x, int seed, int n) {
        int below = 0;
        for (int i = 0; i < 8 * n; i++) {
            seed = seed * 1103515245 + 12345;
            below += i % 8 == 0 && ((seed >> 16) & 32767) % 52 < x ? 1 : 0;
        }
        return below;
    }

    private static void savings() {
        // Only if the first input is below 20, the current program does one test less.
        KnownTurns x = Check.of("read a if a<20 1 2;if a<30 2 2;stop;");
        CHECK.due("saved(5,10) of the same program", x.saved(5, 10), 0);
        CHECK.due("fold()", x.fold(), 1);
        x.input(0, 7);
        for (int seed = -3; seed < 4; seed++) {
            for (int n = 1; n <= 10; n++) {
                int scaled = seed * 715827883;
                CHECK.due("saved(" + scaled + "," + n + ")", x.saved(scaled, n), firstInputsBelow(20, scaled, n));
            }
        }
        CHECK.due("the inputs stay", x.input(0, 7), 7);
        CHECK.due("count(2)", x.count(2), 7);
    }

    private static void draws() {
        for (int seed = -40; seed < 40; seed++) {
            for (int n = 1; n <= 8; n++) {
                KnownTurns x = new KnownTurns();
                x.keep(0);
                int tests = x.draw(seed * 77777777, n);
                CHECK.due("tests", tests, x.program(0, 2));
                CHECK.due("blocks", x.program(0, 0), n);
                CHECK.due("copy", x.program(1, 0), n);
                CHECK.due("images", x.count(0), 0);
                drawnAs(x, seed * 77777777, n);
            }
        }
    }

    private static int seed;

    private static int drawn(int modulo) {
        seed = seed * 1103515245 + 12345;
        return ((seed >> 16) & 32767) % modulo;
    }

    private static void drawnAs(KnownTurns x, int from, int n) {
        seed = from;
        for (int b = 0; b < n; b++) {
            int acts = drawn(4);
            CHECK.due("acts", x.block(0, b, 0), acts);
            for (int i = 0; i < acts; i++) {
                int kind = drawn(6);
                CHECK.due("kind", x.act(0, b, i, 0), kind);
                CHECK.due("v", x.act(0, b, i, 1), drawn(4));
                int[] modulo = {51, 5, 5, 4};
                CHECK.due("n or w", x.act(0, b, i, 2), kind < 4 ? drawn(modulo[kind]) : -4);
            }
            int end = new int[] {0, 1, 2, 3, 2}[drawn(5)];
            CHECK.due("end", x.block(0, b, 1), end);
            if (end >= 2) {
                CHECK.due("left", x.block(0, b, 4), drawn(4));
                int g = drawn(32768);
                CHECK.due("variable", x.block(0, b, 5), g % 2);
                CHECK.due("right", x.block(0, b, 6), g % 2 == 0 ? g / 8 % 51 : g / 8 % 4);
            }
            CHECK.due("side 0", x.block(0, b, 2), end >= 1 ? drawn(n) : -4);
            CHECK.due("side 1", x.block(0, b, 3), end >= 2 ? drawn(n) : -4);
        }
    }
}
