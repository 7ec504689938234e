/** LOOPS AND THREADING and promises 13 to 20, 26, 28 and 29, sentence by sentence, at their bounds. */
public final class ThreadBoundsTest {
    private static final Check CHECK = new Check();
    // Threaded to 16 blocks, it has edges with each reason: to block 6 the outcome is 0, and block 7 is a head.
    private static final String ALL_REASONS = "read a if a<9 1 1;if a<9 2 2;if a<9 3 3;if a<9 4 4;if a<9 5 5;if a<9 6 6;"
        + "read b if b<9 7 7;if c<9 7 7;";

    public static void main(String[] args) {
        firstReasonCounts();
        reasonsOfSixteen();
        limits();
        lastBlock();
        copies();
        numberOfThreads();
        bySequence();
        themselves();
        heads();
        immediateDominators();
        foldedTests();
        unfoldedTests();
        sweeps();
        images();
        imagesWithoutBlocks();
        leads();
        CHECK.finish();
    }

    private static void why(String text, int limit, int b, int side, int due) {
        KnownTurns x = Check.of(text);
        x.limit(limit);
        String call = "(" + b + "," + side + ") of " + text;
        CHECK.due("why" + call, x.why(b, side), due);
        CHECK.due("thread" + call, x.thread(b, side), due == 0 ? x.program(0, 0) : -2);
        CHECK.due("program(1,0) behind thread" + call, x.program(1, 0), x.program(0, 0) + (due == 0 ? 1 : 0));
    }

    /** "Against threading an edge there can be one of these reasons; the first one counts". */
    private static void firstReasonCounts() {
        why("set a 1 go 1;if a<5 2 2;stop;", 0, 0, 0, 0);
        why("if a<5 1 2;stop;stop;", 4, 0, 0, 1);
        why("if a<5 1 2;read b if b<5 2 2;stop;", 4, 0, 0, 1);
        why("if a<5 0 1;stop;", 4, 0, 0, 1);
        why("if a<5 1 2;write a if a<5 2 2;stop;", 0, 0, 0, 1);
        why("stop;if a<5 0 1;", 4, 1, 1, 1);
        why("go 1;stop;", 4, 0, 0, 2);
        why("go 1;go 1;", 4, 0, 0, 2);
        why("go 0;", 4, 0, 0, 2);
        why("go 1;write a stop;", 0, 0, 0, 2);
        why("go 1;read a if a<5 2 2;stop;", 4, 0, 0, 3);
        why("go 1;read a if a<5 1 2;stop;", 4, 0, 0, 3);
        why("go 1;read a if a<5 2 2;stop;", 0, 0, 0, 3);
        why("go 1;if a<5 1 2;stop;", 4, 0, 0, 4);
        why("if a<5 1 0;stop;", 4, 0, 1, 4);
        why("go 1;write a if a<5 1 2;stop;", 0, 0, 0, 4);
        why("go 1;write a if a<5 2 2;stop;", 0, 0, 0, 5);
    }

    private static KnownTurns threaded(int n) {
        KnownTurns x = Check.of(ALL_REASONS);
        CHECK.due("threads(" + n + ")", x.threads(n), Math.min(n, 8));
        return x;
    }

    /** "6 there are 16 blocks": the last of the reasons. */
    private static void reasonsOfSixteen() {
        KnownTurns x = threaded(16);
        CHECK.due("program(1,0)", x.program(1, 0), 16);
        int[][] due = {{1, 0, 1}, {14, 0, 2}, {12, 0, 3}, {13, 0, 3}, {6, 0, 4}, {6, 1, 4}, {7, 1, 4}, {7, 0, 1}, {10, 0, 6}, {11, 0, 6}};
        for (int[] row : due) {
            CHECK.due("why(" + row[0] + "," + row[1] + ")", x.why(row[0], row[1]), row[2]);
            CHECK.due("thread(" + row[0] + "," + row[1] + ")", x.thread(row[0], row[1]), -2);
        }
        CHECK.due("edges that can be threaded", x.program(1, 7), 0);
        CHECK.due("program(1,0)", x.program(1, 0), 16);
        KnownTurns acts = Check.of(ALL_REASONS.replace("if a<9 5 5;", "write a if a<9 5 5;"));
        acts.threads(16);
        CHECK.due("6", acts.why(10, 0), 6);
        acts.limit(0);
        CHECK.due("5 before 6", acts.why(10, 0), 5);
    }

    /** "5 that block has more acts than the limit (0 to 4; 4 at first)". */
    private static void limits() {
        for (int acts = 0; acts <= 4; acts++) {
            String text = "set a 1 go 1;" + "write a ".repeat(acts) + "if a<5 2 2;stop;";
            CHECK.due("why(0,0) of " + text, Check.of(text).why(0, 0), 0);
            CHECK.due("thread(0,0) of " + text, Check.of(text).thread(0, 0), 3);
            for (int limit = 0; limit <= 4; limit++) {
                why(text, limit, 0, 0, acts > limit ? 5 : 0);
                KnownTurns x = Check.of(text);
                x.limit(limit);
                CHECK.due("program(1,7) with limit " + limit + " of " + text, x.program(1, 7), acts > limit ? 0 : 1);
                CHECK.due("threads(16) with limit " + limit + " of " + text, x.threads(16), acts > limit ? 0 : 1);
            }
        }
    }

    /** "program 1 .. with at most 16"; "with the next number". */
    private static void lastBlock() {
        KnownTurns x = threaded(7);
        CHECK.due("program(1,0)", x.program(1, 0), 15);
        CHECK.due("block(1,15,0)", x.block(1, 15, 0), -1);
        CHECK.holds("edges can be threaded", x.program(1, 7) > 0);
        CHECK.due("why(9,0)", x.why(9, 0), 0);
        CHECK.due("why(11,0), another one", x.why(11, 0), 0);
        CHECK.due("thread(9,0), the last one", x.thread(9, 0), 15);
        CHECK.due("program(1,0)", x.program(1, 0), 16);
        CHECK.due("block(1,9,2)", x.block(1, 9, 2), 15);
        CHECK.due("why(11,0)", x.why(11, 0), 6);
        CHECK.due("thread(11,0), one too many", x.thread(11, 0), -2);
        CHECK.due("block(1,16,0)", x.block(1, 16, 0), -1);
        CHECK.due("the original has 8 blocks", x.program(0, 0), 8);
        CHECK.due("sweep()", x.sweep(), 4);
        CHECK.holds("there is room again", x.threads(16) > 0);
    }

    private static void blockIs(KnownTurns x, int b, int... due) {
        for (int what = 0; what < due.length; what++) {
            CHECK.due("block(1," + b + "," + what + ")", x.block(1, b, what), due[what]);
        }
    }

    /** "a copy of that block is added as a new block, .. whose end is a go to where the outcome along the edge leads; the edge leads to the new block then". */
    private static void copies() {
        String text = "read a if a<9 1 1;set b 50 add c 4 sub d 3 move d b if a<9 2 3;stop;go 2;";
        KnownTurns x = Check.of(text);
        CHECK.due("thread(0,1)", x.thread(0, 1), 4);
        blockIs(x, 0, 1, 2, 1, 4, 0, 0, 9, 0);
        blockIs(x, 4, 4, 1, 3, -4, -4, -4, -4, 1);
        CHECK.due("thread(0,0)", x.thread(0, 0), 5);
        blockIs(x, 0, 1, 2, 5, 4, 0, 0, 9, 0);
        blockIs(x, 5, 4, 1, 2, -4, -4, -4, -4, 1);
        for (int b = 4; b < 6; b++) {
            for (int i = 0; i < 12; i++) {
                CHECK.due("act(1," + b + ",..)", x.act(1, b, i / 3, i % 3), x.act(0, 1, i / 3, i % 3));
            }
        }
        blockIs(x, 1, 4, 2, 2, 3, 0, 0, 9, 1);
        CHECK.due("thread(0,0) again", x.thread(0, 0), -2);
        // The origin is a block of the original, also where sweep() has changed the numbers.
        KnownTurns origin = Check.of("go 2;stop;set a 1 go 3;if a<2 4 4;stop;");
        CHECK.due("sweep()", origin.sweep(), 1);
        CHECK.due("thread(1,0)", origin.thread(1, 0), 4);
        int[] origins = {0, 2, 3, 4, 3};
        for (int b = 0; b < origins.length; b++) {
            CHECK.due("block(1," + b + ",7)", origin.block(1, b, 7), origins[b]);
        }
    }

    /** "until n edges were threaded or none can be", "n: 1 to 16". */
    private static void numberOfThreads() {
        for (int n = 1; n <= 16; n++) {
            KnownTurns x = threaded(n);
            CHECK.due("program(1,0) behind threads(" + n + ")", x.program(1, 0), 8 + Math.min(n, 8));
            KnownTurns one = Check.of("set a 1 go 1;if a<5 2 2;stop;");
            CHECK.due("threads(" + n + ") of one edge", one.threads(n), 1);
            CHECK.due("threads(" + n + ") again", one.threads(n), 0);
            CHECK.due("threads(" + n + ") of none", Check.of("go 0;").threads(n), 0);
        }
        // Behind sweep() there is much room, but no edge that can be threaded.
        KnownTurns swept = Check.of("set a 1 go 1;if a<5 2 2;stop;");
        swept.threads(16);
        CHECK.due("sweep()", swept.sweep(), 1);
        CHECK.due("threads(16)", swept.threads(16), 0);
    }

    /** "each time the first one that can be threaded, by block and then by side". */
    private static void bySequence() {
        KnownTurns x = Check.of("read a if a<9 2 2;if b<9 2 2;if a<9 3 3;if a<9 4 5;read d if d<9 5 5;stop;");
        int[][] sequence = {{0, 0, 6}, {0, 1, 7}, {6, 0, 8}, {7, 0, 9}};
        for (int[] row : sequence) {
            CHECK.due("threads(1)", x.threads(1), 1);
            CHECK.due("block(1," + row[0] + "," + (2 + row[1]) + ")", x.block(1, row[0], 2 + row[1]), row[2]);
        }
    }

    /** "(Each block that can be reached dominates itself.)" and by edges, "shut ones included". */
    private static void themselves() {
        KnownTurns x = Check.of("if a<5 1 3;go 2;stop;stop;go 5;go 4;if a<5 0 6;");
        for (int b = 0; b < 7; b++) {
            CHECK.due("dominates(" + b + "," + b + ")", x.dominates(b, b), b < 4 ? 1 : 0);
            CHECK.due("dominates(0," + b + ")", x.dominates(0, b), b < 4 ? 1 : 0);
            CHECK.due("dominates(" + b + ",0)", x.dominates(b, 0), b == 0 ? 1 : 0);
        }
        CHECK.due("by a shut edge", x.dominates(1, 2), 1);
        CHECK.due("of blocks that cannot be reached", x.dominates(4, 5), 0);
        KnownTurns only = Check.of("stop;");
        CHECK.due("dominates(0,0)", only.dominates(0, 0), 1);
    }

    private static void heads(String text, int... due) {
        KnownTurns x = Check.of(text);
        for (int b = 0; b < due.length; b++) {
            CHECK.due("loop(" + b + ",0) of " + text, x.loop(b, 0), due[b]);
        }
    }

    /** "A block is a head if it dominates a block that has an edge to it." */
    private static void heads() {
        heads("stop;", 0);
        heads("go 0;", 1);
        heads("stop;go 1;", 0, 0);
        heads("go 1;go 0;", 1, 0);
        heads("if a<5 0 1;stop;", 1, 0);
        heads("read a if a<5 1 2;go 2;go 1;", 0, 0, 0);
        heads("go 1;stop;go 1;", 0, 0, 0);
        heads("go 1;go 2;go 3;go 4;go 5;go 6;go 7;go 0;", 1, 0, 0, 0, 0, 0, 0, 0);
        heads("go 1;go 2;go 3;go 4;go 5;go 6;go 7;go 7;", 0, 0, 0, 0, 0, 0, 0, 1);
        heads("go 1;go 2;go 3;go 4;go 5;go 6;go 7;go 1;", 0, 1, 0, 0, 0, 0, 0, 0);
    }

    /** "the block other than b that dominates b and is dominated by all others that do"; "NONE .. if there is none (for block 0, or ..)". */
    private static void immediateDominators() {
        String[] texts = {"stop;", "go 0;", "go 1;go 0;", "stop;go 1;", "go 1;go 2;go 3;go 4;go 5;go 6;go 7;stop;",
            "if a<b 1 2;go 3;go 3;if a<b 4 5;go 6;go 6;stop;stop;", "if a<b 1 2;go 2;go 1;"};
        int[][] due = {{-4}, {-4}, {-4, 0}, {-4, -4}, {-4, 0, 1, 2, 3, 4, 5, 6}, {-4, 0, 0, 0, 3, 3, 3, -4}, {-4, 0, 0}};
        for (int i = 0; i < texts.length; i++) {
            KnownTurns x = Check.of(texts[i]);
            for (int b = 0; b < due[i].length; b++) {
                CHECK.due("loop(" + b + ",1) of " + texts[i], x.loop(b, 1), due[i][b]);
            }
        }
    }

    /** "by a go to the block to which the open edge leads". */
    private static void foldedTests() {
        KnownTurns x = Check.of("set a 5 if a<6 1 7;if a<5 7 2;if a=5 3 7;if a=4 7 4;if b=b 7 5;if b<a 7 6;write a stop;stop;");
        CHECK.due("known outcomes", x.program(1, 8), 6);
        CHECK.due("fold()", x.fold(), 6);
        for (int b = 0; b < 6; b++) {
            blockIs(x, b, b == 0 ? 1 : 0, 1, b + 1, -4, -4, -4, -4, b);
            CHECK.due("outcome(" + b + ") behind fold()", x.outcome(b), -4);
        }
        CHECK.due("tests left", x.program(1, 2), 0);
        CHECK.due("tests of the original", x.program(0, 2), 6);
        CHECK.due("fold() again", x.fold(), 0);
        CHECK.due("sweep()", x.sweep(), 1);
        // Its edge is gone: blocks cannot be reached, others dominate, a head is none.
        KnownTurns gone = Check.of("if a<5 1 2;go 0;stop;");
        CHECK.due("loop(0,0)", gone.loop(0, 0), 1);
        CHECK.due("fold()", gone.fold(), 1);
        CHECK.due("loop(0,0) behind fold()", gone.loop(0, 0), 0);
        CHECK.due("dominates(0,1) behind fold()", gone.dominates(0, 1), 0);
        CHECK.due("sweep() behind fold()", gone.sweep(), 1);
        KnownTurns joined = Check.of("read a if a<5 1 2;set b 1 if b<5 3 2;go 3;stop;");
        CHECK.due("dominates(1,2)", joined.dominates(1, 2), 0);
        CHECK.due("fold()", joined.fold(), 1);
        CHECK.due("open edges behind fold()", joined.program(1, 5), 4);
        KnownTurns itself = Check.of("if a<5 1 0;stop;");
        CHECK.due("fold() of a loop", itself.fold(), 1);
        blockIs(itself, 0, 0, 1, 0, -4);
    }

    /** Only "tests .. whose outcome is 1 or 2": not those with outcome 0, nor those of blocks that are not reached. */
    private static void unfoldedTests() {
        KnownTurns open = Check.of("read a if a<5 1 1;if a=a 2 2;stop;if a<5 0 0;");
        CHECK.due("fold()", open.fold(), 0);
        CHECK.due("tests left", open.program(1, 2), 3);
        blockIs(open, 3, 0, 2, 0, 0, 0, 0, 5, 3);
        KnownTurns shut = Check.of("if a<5 1 2;if a<5 2 2;stop;");
        CHECK.due("fold()", shut.fold(), 1);
        blockIs(shut, 1, 0, 2, 2, 2, 0, 0, 5, 1);
        CHECK.due("fold() again, block 1 is not reached", shut.fold(), 0);
        CHECK.due("fold() without tests", Check.of("go 0;").fold(), 0);
    }

    /** "Removes all blocks .. that cannot be reached from block 0 by edges. The others keep their sequence and are numbered anew." */
    private static void sweeps() {
        KnownTurns all = Check.of("stop;".repeat(8));
        CHECK.due("sweep() of all but block 0", all.sweep(), 7);
        CHECK.due("program(1,0)", all.program(1, 0), 1);
        CHECK.due("sweep() again", all.sweep(), 0);
        CHECK.due("program(1,0)", all.program(1, 0), 1);
        KnownTurns none = Check.of("go 1;go 2;go 3;go 4;go 5;go 6;go 7;stop;");
        CHECK.due("sweep() of none", none.sweep(), 0);
        CHECK.due("program(1,0)", none.program(1, 0), 8);
        KnownTurns first = Check.of("go 2;go 0;go 3;if a<b 0 3;");
        CHECK.due("sweep() of block 1", first.sweep(), 1);
        blockIs(first, 0, 0, 1, 1, -4, -4, -4, -4, 0);
        blockIs(first, 1, 0, 1, 2, -4, -4, -4, -4, 2);
        blockIs(first, 2, 0, 2, 0, 2, 0, 1, 1, 3);
        KnownTurns last = Check.of("if a<b 5 0;stop;stop;stop;stop;go 6;read d stop;stop;");
        CHECK.due("sweep() of the last and others", last.sweep(), 5);
        blockIs(last, 0, 0, 2, 1, 0, 0, 1, 1, 0);
        blockIs(last, 1, 0, 1, 2, -4, -4, -4, -4, 5);
        blockIs(last, 2, 1, 0, -4, -4, -4, -4, -4, 6);
        CHECK.due("act(1,2,0,1)", last.act(1, 2, 0, 1), 3);
        KnownTurns one = Check.of("go 0;");
        CHECK.due("sweep() of one block", one.sweep(), 0);
        CHECK.due("sweep() without blocks", new KnownTurns().sweep(), 0);
    }

    /** "Keeps the current program in an image, in place of what it has"; "it stays there"; "STATE if the image is empty". */
    private static void images() {
        KnownTurns x = threaded(16);
        CHECK.due("back(0)", x.back(0), -2);
        CHECK.due("keep(0)", x.keep(0), 0);
        CHECK.due("back(1)", x.back(1), -2);
        CHECK.due("sweep()", x.sweep(), 4);
        CHECK.due("keep(1)", x.keep(1), 0);
        CHECK.due("count(0)", x.count(0), 2);
        for (int again = 0; again < 2; again++) {
            CHECK.due("back(0)", x.back(0), 16);
            CHECK.due("why(10,0)", x.why(10, 0), 6);
            CHECK.due("sweep()", x.sweep(), 4);
            CHECK.due("back(1)", x.back(1), 12);
            CHECK.due("block(1,12,0)", x.block(1, 12, 0), -1);
        }
        CHECK.due("keep(0), in place of the other", x.keep(0), 1);
        CHECK.due("back(0)", x.back(0), 12);
        CHECK.due("count(0)", x.count(0), 2);
        CHECK.due("lead(0,0,0)", x.lead(0, 0, 0), 1);
        CHECK.due("count(0)", x.count(0), 0);
        CHECK.due("back(0)", x.back(0), -2);
        CHECK.due("back(1)", x.back(1), -2);
        CHECK.due("keep(1), empty again", x.keep(1), 0);
        CHECK.due("count(0)", x.count(0), 1);
        CHECK.due("back(1)", x.back(1), 8);
    }

    /**
     * "Keeps the current program in an image", and one without blocks is a program too: "At first both have no blocks",
     * "A program without blocks stops at once".
     */
    private static void imagesWithoutBlocks() {
        for (int k = 0; k < 2; k++) {
            KnownTurns x = new KnownTurns();
            CHECK.due("keep(" + k + ")", x.keep(k), 0);
            CHECK.due("count(0)", x.count(0), 1);
            CHECK.due("keep(" + k + ") again", x.keep(k), 1);
            CHECK.due("count(0)", x.count(0), 1);
            CHECK.due("back(" + k + ")", x.back(k), 0);
            CHECK.due("back(" + k + "), it stays there", x.back(k), 0);
            CHECK.due("back of the other one", x.back(1 - k), -2);
            CHECK.due("program(1,0)", x.program(1, 0), 0);
            CHECK.due("ran(1,4)", x.ran(1, 4), 1);
            CHECK.due("text() of nothing empties it", x.text(), 0);
            CHECK.due("count(0)", x.count(0), 0);
            CHECK.due("back(" + k + ")", x.back(k), -2);
            CHECK.due("keep(" + k + ")", x.keep(k), 0);
            CHECK.due("draw(1,1) empties it", x.draw(1, 1) >= 0 ? 1 : 0, 1);
            CHECK.due("back(" + k + ")", x.back(k), -2);
        }
    }

    /** "Changes the block to which an edge of the original leads." */
    private static void leads() {
        for (int side = 0; side < 2; side++) {
            for (int t = 0; t < 8; t++) {
                KnownTurns x = Check.of("if a<b 3 4;" + "stop;".repeat(7));
                CHECK.due("lead(0," + side + "," + t + ")", x.lead(0, side, t), 3 + side);
                for (int p = 0; p < 2; p++) {
                    CHECK.due("block(" + p + ",0," + (2 + side) + ")", x.block(p, 0, 2 + side), t);
                    CHECK.due("block(" + p + ",0," + (3 - side) + ")", x.block(p, 0, 3 - side), 4 - side);
                }
                CHECK.due("lead back", x.lead(0, side, 3 + side), t);
            }
        }
        // An edge of the current program alone is no edge of the original, and the other way round.
        KnownTurns folded = Check.of("if a<5 0 1;stop;");
        folded.fold();
        CHECK.due("along(0,1,0,0)", folded.along(0, 1, 0, 0), -1);
        CHECK.due("lead(0,1,0)", folded.lead(0, 1, 0), 1);
        KnownTurns grown = Check.of("set a 1 go 1;if a<5 2 2;stop;");
        CHECK.due("thread(0,0)", grown.thread(0, 0), 3);
        CHECK.due("lead(3,0,0)", grown.lead(3, 0, 0), -1);
        CHECK.due("lead(0,0,3)", grown.lead(0, 0, 3), -1);
        KnownTurns swept = Check.of("stop;go 0;");
        CHECK.due("sweep()", swept.sweep(), 1);
        CHECK.due("lead(1,0,1)", swept.lead(1, 0, 1), 0);
        CHECK.due("program(1,0)", swept.program(1, 0), 2);
    }
}
