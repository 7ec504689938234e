/** Promises 1 to 5: a new object, feed, end, text, fault. */
public final class TextTest {
    private static final Check CHECK = new Check();
    private static final String FOUR_ACTS = "read a read a read a read a ";
    private static final String EIGHT_BLOCKS = "stop;".repeat(8);

    public static void main(String[] args) {
        newObject();
        tape();
        soundTexts();
        tokenFaults();
        placeFaults();
        rangeFaults();
        roomFaults();
        missingBlocks();
        whatTextChanges();
        programOfText();
        CHECK.finish();
    }

    private static void newObject() {
        KnownTurns x = new KnownTurns();
        CHECK.due("new: program(0,0)", x.program(0, 0), 0);
        CHECK.due("new: program(1,0)", x.program(1, 0), 0);
        CHECK.due("new: count(0)", x.count(0), 0);
        CHECK.due("new: count(1)", x.count(1), 0);
        CHECK.due("new: count(2)", x.count(2), 8);
        CHECK.due("new: count(3)", x.count(3), -4);
        CHECK.due("new: count(4)", x.count(4), 4);
        CHECK.due("new: fault()", x.fault(), 0);
        CHECK.due("new: torn()", x.torn(), 0);
        CHECK.due("new: back(0)", x.back(0), -2);
        CHECK.due("new: back(1)", x.back(1), -2);
        for (int k = 0; k < 4; k++) {
            CHECK.due("new: lay", x.lay(k, 0, 0), -11);
        }
    }

    private static void tape() {
        KnownTurns x = new KnownTurns();
        CHECK.due("feed(-1)", x.feed(-1), -1);
        CHECK.due("feed(128)", x.feed(128), -1);
        CHECK.due("feed(0)", x.feed(0), 1);
        CHECK.due("feed(127)", x.feed(127), 2);
        CHECK.due("end(3)", x.end(3), -1);
        CHECK.due("end(-1)", x.end(-1), -1);
        CHECK.due("end(2)", x.end(2), 2);
        CHECK.due("end(1)", x.end(1), 2);
        CHECK.due("end(0)", x.end(0), 1);
        CHECK.due("end(0)", x.end(0), 0);
        for (int i = 1; i <= 200; i++) {
            CHECK.due("feed(32)", x.feed(32), i);
        }
        CHECK.due("feed(32) when full", x.feed(32), -3);
        CHECK.due("feed(128) when full", x.feed(128), -1);
        CHECK.due("count(1)", x.count(1), 200);
        CHECK.due("end(199)", x.end(199), 200);
        CHECK.due("feed(';')", x.feed(';'), 200);
        CHECK.due("text()", x.text(), -10 - 199);
        CHECK.due("fault()", x.fault(), 2);
        Check.type(x, "stop;junk");
        CHECK.due("end(5)", x.end(5), 9);
        CHECK.due("text()", x.text(), 1);
    }

    private static void reads(String text, int due, int fault) {
        KnownTurns x = new KnownTurns();
        Check.type(x, text);
        CHECK.due("text() of '" + text + "'", x.text(), due);
        CHECK.due("fault() of '" + text + "'", x.fault(), fault);
        CHECK.due("count(1) behind '" + text + "'", x.count(1), 0);
        CHECK.due("program(0,0) of '" + text + "'", x.program(0, 0), Math.max(due, 0));
        CHECK.due("program(1,0) of '" + text + "'", x.program(1, 0), Math.max(due, 0));
    }

    private static void soundTexts() {
        reads("", 0, 0);
        reads("   ", 0, 0);
        reads(" ".repeat(200), 0, 0);
        reads("stop;", 1, 0);
        reads("  stop  ;  ", 1, 0);
        reads("set a 50 add b 0 sub c 1 move d a stop;", 1, 0);
        reads("read a write b go 0;", 1, 0);
        reads("set a5stop;", 1, 0);
        reads("set a 05 stop;", 1, 0);
        reads("go 00;", 1, 0);
        reads("if a<5 0 0;", 1, 0);
        reads("if d = b 0 0 ;", 1, 0);
        reads("if d=d 0 0;", 1, 0);
        reads("if a<50 0 0;", 1, 0);
        reads("go 1;go 0;", 2, 0);
        reads(FOUR_ACTS + "stop;", 1, 0);
        reads(EIGHT_BLOCKS, 8, 0);
        reads(EIGHT_BLOCKS + "  ", 8, 0);
    }

    private static void tokenFaults() {
        reads("Stop;", -10, 1);
        reads("  ?", -12, 1);
        reads("stop;\t", -15, 1);
        reads("stop!", -14, 1);
        reads("stop\n;", -14, 1);
        reads("set a 100 stop;", -16, 1);
        reads("set a 005 stop;", -16, 1);
        reads("set 123", -14, 1);
        reads("go 999;", -13, 1);
        reads("if a>5 0 0;", -14, 1);
        reads("set a -1 stop;", -16, 1);
        reads("go 1;?", -15, 1);
    }

    private static void placeFaults() {
        reads("stop", -14, 2);
        reads("stop  ", -16, 2);
        reads("stopp;", -10, 2);
        reads("sto;", -10, 2);
        reads("ztop;", -10, 2);
        reads("abc", -10, 2);
        reads("hf a<5 0 0;", -10, 2);
        reads("stopz;", -10, 2);
        reads("a", -10, 2);
        reads(";", -10, 2);
        reads(" 5", -11, 2);
        reads("<", -10, 2);
        reads("stop;;", -15, 2);
        reads("stop stop;", -15, 2);
        reads("stop 5;", -15, 2);
        reads("seta 5 stop;", -10, 2);
        reads("set e 5 stop;", -14, 2);
        reads("set aa 5 stop;", -14, 2);
        reads("set 5 a stop;", -14, 2);
        reads("set 99 a stop;", -14, 2);
        reads("set a b stop;", -16, 2);
        reads("set a", -15, 2);
        reads("set a  ", -17, 2);
        reads("set", -13, 2);
        reads("set a 5", -17, 2);
        reads("set a 5;", -17, 2);
        reads("move a 1 stop;", -17, 2);
        reads("move a e stop;", -17, 2);
        reads("read a 1 stop;", -17, 2);
        reads("write 1 stop;", -16, 2);
        reads("go a;", -13, 2);
        reads("go;", -12, 2);
        reads("go 0 0;", -15, 2);
        reads("if a<5 0;", -18, 2);
        reads("if a<5 00;", -19, 2);
        reads("if a 5 0 0;", -15, 2);
        reads("if a;5 0 0;", -14, 2);
        reads("if a<e 0 0;", -15, 2);
        reads("if a<;", -15, 2);
        reads("if a<", -15, 2);
        reads("if 5<a 0 0;", -13, 2);
        reads("if a<b c 0;", -17, 2);
        reads("if a<b 0 0", -20, 2);
        reads(" ".repeat(196) + "stop", -210, 2);
    }

    private static void rangeFaults() {
        reads("set a 51 stop;", -16, 3);
        reads("add a 51 stop;", -16, 3);
        reads("sub a 99 stop;", -16, 3);
        reads("if a<51 0 0;", -15, 3);
        reads("if a=51?", -15, 3);
        reads("go 8;", -13, 3);
        reads("go 08;", -13, 3);
        reads("if a<5 8 0;", -17, 3);
        reads("if a<5 0 8;", -19, 3);
        reads("stop;".repeat(7) + "go 8;", -48, 3);
    }

    private static void roomFaults() {
        reads(FOUR_ACTS + "read a stop;", -38, 5);
        for (String word : new String[] {"set", "add", "sub", "move", "read", "write"}) {
            reads(FOUR_ACTS + word + " ? stop;", -38, 5);
        }
        reads(FOUR_ACTS + "foo", -38, 2);
        reads(FOUR_ACTS + "5", -38, 2);
        reads(FOUR_ACTS, -38, 2);
        reads(EIGHT_BLOCKS + "x", -50, 5);
        reads(EIGHT_BLOCKS + " stop;", -51, 5);
        reads(EIGHT_BLOCKS + "set ?", -50, 5);
        reads(EIGHT_BLOCKS + ";", -50, 2);
        reads(EIGHT_BLOCKS + "7", -50, 2);
        reads(EIGHT_BLOCKS + "777", -50, 1);
        reads(EIGHT_BLOCKS + "?", -50, 1);
        reads("go 7;" + "stop;".repeat(7) + "stop;", -50, 5);
    }

    private static void missingBlocks() {
        reads("go 1;", -15, 6);
        reads("go 1;  ", -17, 6);
        reads("go 7;", -15, 6);
        reads("if a<5 0 1;", -21, 6);
        reads("if a<5 1 0;", -21, 6);
        reads("stop;go 2;", -20, 6);
        reads("stop;".repeat(6) + "go 7;", -45, 6);
        reads("stop;".repeat(7) + "go 7;", 8, 0);
        reads("go 5;stop", -19, 2);
    }

    private static void whatTextChanges() {
        KnownTurns x = Check.of("if a<5 0 0;");
        x.fold();
        x.keep(0);
        x.input(3, 9);
        x.limit(2);
        Check.type(x, "stop");
        CHECK.due("text() with a fault", x.text(), -14);
        CHECK.due("fault()", x.fault(), 2);
        CHECK.due("the original stays", x.block(0, 0, 1), 2);
        CHECK.due("the current stays", x.block(1, 0, 1), 1);
        CHECK.due("the image stays", x.count(0), 1);
        x.feed('s');
        CHECK.due("fault() stays until text()", x.fault(), 2);
        x.end(0);
        Check.type(x, "if a<5 0 0;");
        CHECK.due("the same text again", x.text(), 1);
        CHECK.due("fault()", x.fault(), 0);
        CHECK.due("the current is a copy", x.block(1, 0, 1), 2);
        CHECK.due("the images are empty", x.count(0), 0);
        CHECK.due("the limit stays", x.count(4), 2);
        CHECK.due("the inputs stay", x.input(3, 9), 9);
        CHECK.due("an empty text", x.text(), 0);
        CHECK.due("is a program", x.program(0, 0), 0);
        CHECK.due("and its copy", x.program(1, 0), 0);
    }

    private static void programOfText() {
        KnownTurns x = Check.of("set a 7 add b 6 sub c 5 move d b go 1; read c write d if c=d 2 0; if b<33 1 2;");
        int[][] acts = {{0, 0, 7}, {1, 1, 6}, {2, 2, 5}, {3, 3, 1}};
        for (int i = 0; i < 4; i++) {
            for (int what = 0; what < 3; what++) {
                CHECK.due("act(0,0," + i + "," + what + ")", x.act(0, 0, i, what), acts[i][what]);
                CHECK.due("act(1,0," + i + "," + what + ")", x.act(1, 0, i, what), acts[i][what]);
            }
        }
        int[][] blocks = {{4, 1, 1, -4, -4, -4, -4, 0}, {2, 3, 2, 0, 2, 1, 3, 1}, {0, 2, 1, 2, 1, 0, 33, 2}};
        for (int b = 0; b < 3; b++) {
            for (int what = 0; what < 8; what++) {
                CHECK.due("block(0," + b + "," + what + ")", x.block(0, b, what), blocks[b][what]);
                CHECK.due("block(1," + b + "," + what + ")", x.block(1, b, what), blocks[b][what]);
            }
        }
        CHECK.due("act of read", x.act(0, 1, 0, 0), 4);
        CHECK.due("act of read", x.act(0, 1, 0, 1), 2);
        CHECK.due("act of read", x.act(0, 1, 0, 2), -4);
        CHECK.due("act of write", x.act(1, 1, 1, 0), 5);
        CHECK.due("act of write", x.act(1, 1, 1, 1), 3);
        CHECK.due("act of write", x.act(1, 1, 1, 2), -4);
    }
}
