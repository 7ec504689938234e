/** Promises 16 to 20, 26, 28 and 29: thread, threads, fold, sweep, limit, lead, keep, back. */
public final class ThreadingTest {
    private static final Check CHECK = new Check();
    private static final String CHAIN = "read a if a<9 1 1;if a<9 2 2;if a<9 3 3;if a<9 4 4;write a if a<9 5 5;if a<9 6 6;"
        + "if a<9 7 7;stop;";

    public static void main(String[] args) {
        oneEdge();
        origins();
        sixteenBlocks();
        someThreads();
        folding();
        sweeping();
        limits();
        leading();
        images();
        CHECK.finish();
    }

    private static void blockIs(KnownTurns x, int b, int... due) {
        for (int what = 0; what < due.length; what++) {
            CHECK.due("block(1," + b + "," + what + ")", x.block(1, b, what), due[what]);
        }
    }

    private static void oneEdge() {
        KnownTurns x = Check.of("read a if a<5 1 2;write a add b 1 if a<9 3 2;stop;go 3;");
        CHECK.due("thread of an edge with a reason", x.thread(0, 1), -2);
        CHECK.due("thread of a shut edge", x.thread(1, 1), -2);
        CHECK.due("nothing changed", x.program(1, 0), 4);
        CHECK.due("thread(0,0)", x.thread(0, 0), 4);
        CHECK.due("program(1,0)", x.program(1, 0), 5);
        CHECK.due("program(0,0)", x.program(0, 0), 4);
        blockIs(x, 0, 1, 2, 4, 2, 0, 0, 5, 0);
        blockIs(x, 1, 2, 2, 3, 2, 0, 0, 9, 1);
        blockIs(x, 4, 2, 1, 3, -4, -4, -4, -4, 1);
        CHECK.due("act(1,4,0,0)", x.act(1, 4, 0, 0), 5);
        CHECK.due("act(1,4,0,1)", x.act(1, 4, 0, 1), 0);
        CHECK.due("act(1,4,1,0)", x.act(1, 4, 1, 0), 1);
        CHECK.due("act(1,4,1,1)", x.act(1, 4, 1, 1), 1);
        CHECK.due("act(1,4,1,2)", x.act(1, 4, 1, 2), 1);
        CHECK.due("act(1,4,2,0)", x.act(1, 4, 2, 0), -4);
        CHECK.due("block 1 is not reached now", x.outcome(1), -2);
        CHECK.due("range(4,0,1)", x.range(4, 0, 1), 4);
        CHECK.due("outcome 2 leads to side 1", Check.of("set a 9 go 1;if a<9 0 2;stop;").thread(0, 0), 3);
        KnownTurns second = Check.of("set a 9 go 1;if a<9 0 2;stop;");
        second.thread(0, 0);
        blockIs(second, 3, 0, 1, 2, -4, -4, -4, -4, 1);
    }

    private static void origins() {
        KnownTurns x = Check.of(CHAIN);
        CHECK.due("threads(4)", x.threads(4), 4);
        int[] due = {0, 1, 2, 3, 4, 5, 6, 7, 1, 1, 3, 3};
        for (int b = 0; b < 12; b++) {
            CHECK.due("origin of " + b, x.block(1, b, 7), due[b]);
        }
        CHECK.due("sweep()", x.sweep(), 2);
        int[] swept = {0, 2, 4, 5, 6, 7, 1, 1, 3, 3};
        for (int b = 0; b < 10; b++) {
            CHECK.due("origin of " + b + " behind sweep()", x.block(1, b, 7), swept[b]);
        }
        blockIs(x, 0, 1, 2, 6, 7);
        blockIs(x, 1, 0, 2, 8, 9);
        blockIs(x, 6, 0, 1, 1, -4);
        blockIs(x, 8, 0, 1, 2, -4);
    }

    private static void sixteenBlocks() {
        KnownTurns x = Check.of(CHAIN);
        CHECK.due("threads(16)", x.threads(16), 8);
        CHECK.due("program(1,0)", x.program(1, 0), 16);
        CHECK.due("6: 16 blocks", x.why(10, 0), 6);
        CHECK.due("6: 16 blocks", x.why(13, 0), 6);
        CHECK.due("2 before 6", x.why(14, 0), 2);
        CHECK.due("1 before 6", x.why(1, 0), 1);
        CHECK.due("thread(10,0)", x.thread(10, 0), -2);
        CHECK.due("threads(1)", x.threads(1), 0);
        CHECK.due("program(1,7)", x.program(1, 7), 0);
        blockIs(x, 15, 0, 1, 11, -4, -4, -4, -4, 2);
        CHECK.due("block(1,16,0)", x.block(1, 16, 0), -1);
        CHECK.due("the original has 8", x.block(0, 8, 0), -1);
        CHECK.due("dominates(0,15)", x.dominates(0, 15), 1);
        CHECK.due("loop(15,1)", x.loop(15, 1), 9);
        CHECK.due("range(15,0,0)", x.range(15, 0, 0), 9);
        x.limit(0);
        CHECK.due("5 before 6", x.why(10, 0), 5);
        CHECK.due("no acts there", x.why(12, 0), 6);
        x.limit(4);
        CHECK.due("keep(1)", x.keep(1), 0);
        CHECK.due("sweep()", x.sweep(), 4);
        CHECK.due("now there is room", x.program(1, 7), 4);
        CHECK.due("threads(16)", x.threads(16), 4);
        CHECK.due("back(1)", x.back(1), 16);
        CHECK.due("6: 16 blocks", x.why(10, 0), 6);
    }

    private static void someThreads() {
        KnownTurns x = Check.of(CHAIN);
        CHECK.due("threads(0)", x.threads(0), -1);
        CHECK.due("threads(17)", x.threads(17), -1);
        CHECK.due("threads(-1)", x.threads(-1), -1);
        CHECK.due("threads(1)", x.threads(1), 1);
        CHECK.due("the first is side 0", x.block(1, 0, 2), 8);
        CHECK.due("and not side 1", x.block(1, 0, 3), 1);
        CHECK.due("threads(2)", x.threads(2), 2);
        CHECK.due("then side 1", x.block(1, 0, 3), 9);
        CHECK.due("then block 2, since block 1 is not reached", x.block(1, 2, 2), 10);
        CHECK.due("none", new KnownTurns().threads(16), 0);
        CHECK.due("none", Check.of("go 0;").threads(3), 0);
    }

    private static void folding() {
        // The test of block 2 stays, since block 2 is not reached.
        KnownTurns x = Check.of("set a 3 if a<5 1 2;read b if b<9 3 3;if a<5 3 3;if a=3 4 4;stop;");
        CHECK.due("known tests", x.program(1, 8), 2);
        CHECK.due("fold()", x.fold(), 2);
        blockIs(x, 0, 1, 1, 1, -4, -4, -4, -4, 0);
        blockIs(x, 1, 1, 2, 3, 3, 1, 0, 9, 1);
        blockIs(x, 2, 0, 2, 3, 3, 0, 0, 5, 2);
        blockIs(x, 3, 0, 1, 4, -4, -4, -4, -4, 3);
        CHECK.due("the original stays", x.program(0, 2), 4);
        CHECK.due("fold() again", x.fold(), 0);
    }

    private static void sweeping() {
        KnownTurns x = Check.of("go 2;go 3;if a<5 4 2;stop;go 0;");
        CHECK.due("sweep()", x.sweep(), 2);
        CHECK.due("program(1,0)", x.program(1, 0), 3);
        CHECK.due("program(0,0)", x.program(0, 0), 5);
        blockIs(x, 0, 0, 1, 1, -4, -4, -4, -4, 0);
        blockIs(x, 1, 0, 2, 2, 1, 0, 0, 5, 2);
        blockIs(x, 2, 0, 1, 0, -4, -4, -4, -4, 4);
        CHECK.due("block(1,3,0)", x.block(1, 3, 0), -1);
        CHECK.due("range(1,0,2) behind sweep()", x.range(1, 0, 2), 1);
        CHECK.due("why(1,0) behind sweep()", x.why(1, 0), 1);
        CHECK.due("loop(1,1) behind sweep()", x.loop(1, 1), 0);
        CHECK.due("sweep() again", x.sweep(), 0);
        CHECK.due("sweep() without blocks", new KnownTurns().sweep(), 0);
        // Shut edges count for sweep().
        CHECK.due("a shut edge", Check.of("if a<5 1 2;stop;stop;").sweep(), 0);
    }

    private static void limits() {
        KnownTurns x = new KnownTurns();
        CHECK.due("limit(-1)", x.limit(-1), -1);
        CHECK.due("limit(5)", x.limit(5), -1);
        CHECK.due("limit(3)", x.limit(3), 4);
        CHECK.due("limit(0)", x.limit(0), 3);
        CHECK.due("limit(4)", x.limit(4), 0);
        CHECK.due("count(4)", x.count(4), 4);
        KnownTurns y = Check.of("set a 1 go 1;write a if a<2 2 2;stop;");
        y.limit(0);
        CHECK.due("threads(1) above the limit", y.threads(1), 0);
        CHECK.due("program(1,7)", y.program(1, 7), 0);
        y.limit(1);
        CHECK.due("threads(1) within the limit", y.threads(1), 1);
    }

    private static void leading() {
        KnownTurns x = Check.of("set a 1 go 1;if a<2 2 0;stop;");
        x.threads(1);
        x.keep(0);
        CHECK.due("lead of no edge", x.lead(2, 0, 0), -1);
        CHECK.due("lead of no edge", x.lead(0, 1, 0), -1);
        CHECK.due("lead of no edge", x.lead(0, -1, 0), -1);
        CHECK.due("lead of no edge", x.lead(1, 2, 0), -1);
        CHECK.due("lead of no block", x.lead(3, 0, 0), -1);
        CHECK.due("lead of no block", x.lead(-1, 0, 0), -1);
        CHECK.due("lead to no block", x.lead(0, 0, 3), -1);
        CHECK.due("lead to no block", x.lead(0, 0, -1), -1);
        CHECK.due("nothing changed", x.program(1, 0), 4);
        CHECK.due("nothing changed", x.count(0), 1);
        CHECK.due("lead to where it led", x.lead(1, 1, 0), 0);
        CHECK.due("the current is a copy", x.program(1, 0), 3);
        CHECK.due("the images are empty", x.count(0), 0);
        CHECK.due("lead(1,1,2)", x.lead(1, 1, 2), 0);
        CHECK.due("lead(1,0,1)", x.lead(1, 0, 1), 2);
        CHECK.due("block(0,1,2)", x.block(0, 1, 2), 1);
        CHECK.due("block(0,1,3)", x.block(0, 1, 3), 2);
        CHECK.due("block(1,1,2)", x.block(1, 1, 2), 1);
        CHECK.due("block(1,1,3)", x.block(1, 1, 3), 2);
        CHECK.due("lead(0,0,2)", x.lead(0, 0, 2), 1);
        CHECK.due("block 1 is not reached", x.outcome(1), -2);
        CHECK.due("lead(0,0,0)", x.lead(0, 0, 0), 2);
        CHECK.due("block 0 is a head", x.loop(0, 0), 1);
        CHECK.due("lead(0,0,1)", x.lead(0, 0, 1), 0);
        CHECK.due("block 0 is no head", x.loop(0, 0), 0);
        CHECK.due("block 1 is a head", x.program(1, 6), 1);
    }

    private static void images() {
        KnownTurns x = Check.of(CHAIN);
        CHECK.due("keep(2)", x.keep(2), -1);
        CHECK.due("keep(-1)", x.keep(-1), -1);
        CHECK.due("back(2)", x.back(2), -1);
        CHECK.due("back(-1)", x.back(-1), -1);
        CHECK.due("back(1)", x.back(1), -2);
        CHECK.due("keep(0)", x.keep(0), 0);
        x.threads(2);
        CHECK.due("keep(1)", x.keep(1), 0);
        CHECK.due("count(0)", x.count(0), 2);
        CHECK.due("back(0)", x.back(0), 8);
        CHECK.due("outcome(1) of the image", x.outcome(1), 0);
        CHECK.due("back(1)", x.back(1), 10);
        CHECK.due("outcome(1) of the image", x.outcome(1), -2);
        CHECK.due("origin in the image", x.block(1, 9, 7), 1);
        x.sweep();
        CHECK.due("the image stays", x.back(1), 10);
        CHECK.due("keep(0)", x.keep(0), 1);
        CHECK.due("back(0)", x.back(0), 10);
        CHECK.due("the original stays", x.program(0, 0), 8);
        x.draw(1, 2);
        CHECK.due("draw() empties the images", x.count(0), 0);
        CHECK.due("back(0)", x.back(0), -2);
        CHECK.due("back(1)", x.back(1), -2);
        // A program without blocks can be kept; its image is not empty then.
        KnownTurns empty = new KnownTurns();
        CHECK.due("keep(1)", empty.keep(1), 0);
        CHECK.due("keep(1)", empty.keep(1), 1);
        CHECK.due("count(0)", empty.count(0), 1);
        CHECK.due("back(1)", empty.back(1), 0);
    }
}
