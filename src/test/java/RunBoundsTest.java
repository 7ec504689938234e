/** Runs and draws, and promises 21 to 25 and 27, sentence by sentence, at their bounds. */
public final class RunBoundsTest {
    private static final int MIN = Integer.MIN_VALUE, MAX = Integer.MAX_VALUE;
    private static final Check CHECK = new Check();
    private static final int[] SEEDS = seeds();

    public static void main(String[] args) {
        additions();
        numberTests();
        variableTests();
        moves();
        eightInputs();
        lengths();
        lastBlockOfACut();
        goInLastPlace();
        mostOutputs();
        eachRunAnew();
        twoPrograms();
        wrappingSeeds();
        firstDraws();
        drawnPrograms();
        drawnNumbers();
        drawnInputs();
        sumsOfRuns();
        CHECK.finish();
    }

    private static void ranIs(KnownTurns x, int p, int... due) {
        for (int what = 0; what < due.length; what++) {
            CHECK.due("ran(" + p + "," + what + ")", x.ran(p, what), due[what]);
        }
    }

    /** "if v is a number, it becomes v + n, but at most 50, or v - n, but at least 0; nil stays nil". */
    private static void additions() {
        for (int n : new int[] {0, 1, 2, 24, 25, 26, 49, 50}) {
            KnownTurns x = Check.of("read a add a " + n + " write a stop;");
            KnownTurns y = Check.of("read d sub d " + n + " write d stop;");
            for (int v = 0; v <= 51; v++) {
                x.input(0, v);
                y.input(0, v);
                CHECK.due(v + " + " + n, x.wrote(0, 0), v == 51 ? 51 : Math.min(50, v + n));
                CHECK.due(v + " - " + n, y.wrote(0, 0), v == 51 ? 51 : Math.max(0, v - n));
            }
        }
    }

    /** "It continues with B if v and x are both numbers and v is less than x (or equal to x, respectively), otherwise with C". */
    private static void numberTests() {
        for (int n = 0; n <= 50; n++) {
            KnownTurns less = Check.of("read b if b<" + n + " 1 2;stop;stop;");
            KnownTurns equal = Check.of("read b if b=" + n + " 1 2;stop;stop;");
            for (int v = 0; v <= 51; v++) {
                less.input(0, v);
                equal.input(0, v);
                CHECK.due(v + " < " + n, less.path(0, 1), v < n ? 1 : 2);
                CHECK.due(v + " = " + n, equal.path(0, 1), v == n ? 1 : 2);
            }
        }
    }

    private static void variableTests() {
        for (int w = 0; w <= 51; w++) {
            KnownTurns less = Check.of("read c read d if c<d 1 2;stop;stop;");
            KnownTurns equal = Check.of("read c read d if c=d 1 2;stop;stop;");
            less.input(1, w);
            equal.input(1, w);
            for (int v = 0; v <= 51; v++) {
                less.input(0, v);
                equal.input(0, v);
                boolean numbers = v < 51 && w < 51;
                CHECK.due(v + " < " + w, less.path(1, 1), numbers && v < w ? 1 : 2);
                CHECK.due(v + " = " + w, equal.path(1, 1), numbers && v == w ? 1 : 2);
            }
        }
    }

    /** "v becomes the value of the variable w", nil included. */
    private static void moves() {
        KnownTurns x = Check.of("read a move b a move a c stop;");
        for (int v : new int[] {0, 50, 51}) {
            x.input(0, v);
            ranIs(x, 0, 1, 3, 0, 0, 1, 51, v, 51, 51, 1);
        }
    }

    /** "beginning with input 0; after input 7 it becomes nil"; "how often an input was read (also after the last one)". */
    private static void eightInputs() {
        for (int reads = 1; reads <= 12; reads++) {
            StringBuilder text = new StringBuilder();
            for (int i = 1; i <= reads; i++) {
                text.append("read a ");
                if (i % 4 == 0 && i < reads) {
                    text.append("go ").append(i / 4).append(';');
                }
            }
            KnownTurns x = Check.of(text + "stop;");
            for (int i = 0; i < 8; i++) {
                x.input(i, 30 + i);
            }
            CHECK.due("the value of " + reads + " reads", x.ran(0, 5), reads <= 8 ? 29 + reads : 51);
            CHECK.due("the number of " + reads + " reads", x.ran(0, 9), reads);
            CHECK.due("the acts of " + reads + " reads", x.ran(0, 1), reads);
        }
        KnownTurns none = Check.of("write a stop;");
        CHECK.due("no reads", none.ran(0, 9), 0);
    }

    /** Enters 52 blocks and then block 2 for n times, and stops in block 3, if it comes there. */
    private static KnownTurns counting(int n) {
        return Check.of("set a 0 set b 0 go 1;add a 1 if a<50 1 2;add b 1 read c write b if b<" + n + " 2 3;write a stop;");
    }

    /** "until one stops or 60 blocks were entered. It is cut if the 60th block does not stop". */
    private static void lengths() {
        KnownTurns one = Check.of("stop;");
        ranIs(one, 0, 1, 0, 0, 0, 1, 51, 51, 51, 51, 0);
        CHECK.due("path(0,0)", one.path(0, 0), 0);
        CHECK.due("path(0,1)", one.path(0, 1), -4);
        // 59 blocks: the last one is block 3.
        ranIs(counting(7), 0, 59, 2 + 50 + 3 * 7 + 1, 57, 8, 1, 50, 7, 51, 51, 7);
        CHECK.due("path(0,58)", counting(7).path(0, 58), 3);
        CHECK.due("path(0,59)", counting(7).path(0, 59), -4);
        // 60 blocks, and the 60th one stops.
        ranIs(counting(8), 0, 60, 2 + 50 + 3 * 8 + 1, 58, 9, 1, 50, 8, 51, 51, 8);
        CHECK.due("path(0,59)", counting(8).path(0, 59), 3);
        CHECK.due("path(0,60)", counting(8).path(0, 60), -4);
        CHECK.due("wrote(0,8)", counting(8).wrote(0, 8), 50);
        CHECK.due("wrote(0,9)", counting(8).wrote(0, 9), -4);
    }

    /** "the acts and the end (also a test) of the 60th block are executed and counted before". */
    private static void lastBlockOfACut() {
        // The 60th block is block 2; its test would lead to the stop.
        for (int n : new int[] {9, 10, 50}) {
            for (int p = 0; p < 2; p++) {
                ranIs(counting(n), p, 60, 2 + 50 + 3 * 9, 59, 9, 0, 50, 9, 51, 51, 9);
                CHECK.due("path(p,59)", counting(n).path(p, 59), 2);
                CHECK.due("path(p,60)", counting(n).path(p, 60), -4);
                CHECK.due("wrote(p,8)", counting(n).wrote(p, 8), 9);
                CHECK.due("wrote(p,9)", counting(n).wrote(p, 9), -4);
            }
        }
    }

    private static void goInLastPlace() {
        KnownTurns x = Check.of("add a 1 set b 7 write b go 1;read c write c go 0;");
        ranIs(x, 0, 60, 150, 0, 60, 0, 51, 7, 51, 51, 30);
        CHECK.due("path(0,59)", x.path(0, 59), 1);
        CHECK.due("wrote(0,58)", x.wrote(0, 58), 7);
        CHECK.due("wrote(0,59)", x.wrote(0, 59), 51);
        CHECK.due("wrote(0,60)", x.wrote(0, 60), -4);
        KnownTurns tests = Check.of("if a<1 0 0;");
        ranIs(tests, 0, 60, 0, 60, 0, 0);
    }

    /** 60 blocks with four acts each write 240 values. */
    private static void mostOutputs() {
        KnownTurns x = Check.of("write a write b write c write a go 1;set a 1 set b 2 set c 3 write a go 0;");
        ranIs(x, 1, 60, 240, 0, 150, 0, 1, 2, 3, 51, 0);
        KnownTurns most = Check.of("write a write b write c write d go 0;");
        CHECK.due("ran(0,3)", most.ran(0, 3), 240);
        CHECK.due("ran(1,1)", most.ran(1, 1), 240);
        for (int p = 0; p < 2; p++) {
            CHECK.due("wrote(p,239)", most.wrote(p, 239), 51);
            CHECK.due("wrote(p,240)", most.wrote(p, 240), -4);
            CHECK.due("wrote(p,MAX)", most.wrote(p, MAX), -4);
        }
        KnownTurns all = Check.of("set d 5 write d set d 6 write d go 0;");
        for (int i = 0; i < 120; i++) {
            CHECK.due("wrote(0," + i + ")", all.wrote(0, i), 5 + i % 2);
        }
        CHECK.due("wrote(0,120)", all.wrote(0, 120), -4);
    }

    /** "A run begins at block 0 with all variables nil", whatever ran before, and begins with input 0. */
    private static void eachRunAnew() {
        KnownTurns x = Check.of("write a read a write a set b 9 if c<1 0 1;stop;");
        x.input(0, 12);
        for (int again = 0; again < 3; again++) {
            ranIs(x, again % 2, 2, 4, 1, 2, 1, 12, 9, 51, 51, 1);
            CHECK.due("wrote(0,0)", x.wrote(0, 0), 51);
            CHECK.due("wrote(1,1)", x.wrote(1, 1), 12);
            CHECK.due("saved(1,1)", x.saved(1, 1), 0);
        }
        // "A program without blocks stops at once."
        Check.type(x, " ");
        CHECK.due("text()", x.text(), 0);
        ranIs(x, 0, 0, 0, 0, 0, 1, 51, 51, 51, 51, 0);
        ranIs(x, 1, 0, 0, 0, 0, 1, 51, 51, 51, 51, 0);
        CHECK.due("wrote(0,0)", x.wrote(0, 0), -4);
        CHECK.due("path(1,0)", x.path(1, 0), -4);
    }

    /** p is "0 for the original, 1 for the current program". */
    private static void twoPrograms() {
        KnownTurns x = Check.of("set a 1 go 1;if a<5 3 3;stop;write a stop;");
        CHECK.due("thread(0,0)", x.thread(0, 0), 4);
        CHECK.due("sweep()", x.sweep(), 2);
        ranIs(x, 0, 3, 2, 1, 1, 1, 1, 51, 51, 51, 0);
        ranIs(x, 1, 3, 2, 0, 1, 1, 1, 51, 51, 51, 0);
        int[][] paths = {{0, 1, 3, -4}, {0, 2, 1, -4}};
        for (int i = 0; i < 8; i++) {
            CHECK.due("path(" + i / 4 + "," + i % 4 + ")", x.path(i / 4, i % 4), paths[i / 4][i % 4]);
        }
    }

    // ---- draws

    /** The int whose product with the document's factor is the one given, wrapped. */
    private static int seedOfProduct(int product) {
        int inverse = 1103515245;
        for (int i = 0; i < 5; i++) {
            inverse *= 2 - 1103515245 * inverse;
        }
        return product * inverse;
    }

    /** The ends of the ints, where the multiplication begins to wrap, and where the sum just wraps or just does not. */
    private static int[] seeds() {
        return new int[] {0, 1, -1, 2, -2, 3, 7, MAX, MIN, MAX - 1, MIN + 1, 65536, -65536, 1103515245,
            seedOfProduct(MAX), seedOfProduct(MIN), seedOfProduct(MAX - 12345), seedOfProduct(MAX - 12344),
            seedOfProduct(-12345), seedOfProduct(-12346), seedOfProduct(0x7FFF0000 - 12345), seedOfProduct(0xFFFF0000 - 12345),
            seedOfProduct(65535 - 12345), seedOfProduct(65536 - 12345)};
    }

    /** "the seed becomes seed * 1103515245 + 12345 (int arithmetic that wraps), and the result is (seed >> 16) & 32767". */
    private static void wrappingSeeds() {
        CHECK.due("the product of the seed", seedOfProduct(MAX) * 1103515245, MAX);
        CHECK.due("the sum just wraps", new Drawn(seedOfProduct(MAX - 12344)).whole(), 0);
        CHECK.due("the sum just does not", new Drawn(seedOfProduct(MAX - 12345)).whole(), 32767);
        int wrapped = 0;
        for (int seed : SEEDS) {
            wrapped += (long) seed * 1103515245L != seed * 1103515245 ? 1 : 0;
        }
        CHECK.holds("most of these seeds wrap", wrapped >= 18);
    }

    /** First draws, reckoned by hand: 12345, 1103527590 and 2207042835, which is negative as an int. */
    private static void firstDraws() {
        int[][] firsts = {{0, 0}, {1, 16838}, {2, 908}, {-1, 15929}, {MIN, 0}, {seedOfProduct(MAX - 12345), 32767},
            {seedOfProduct(MAX - 12344), 0}, {seedOfProduct(-12346), 32767}, {seedOfProduct(-12345), 0},
            {seedOfProduct(65535 - 12345), 0}, {seedOfProduct(65536 - 12345), 1}};
        for (int[] first : firsts) {
            CHECK.due("the first draw of " + first[0], new Drawn(first[0]).whole(), first[1]);
            KnownTurns x = new KnownTurns();
            x.draw(first[0], 1);
            CHECK.due("the acts of draw(" + first[0] + ",1)", x.block(0, 0, 0), first[1] % 4);
            CHECK.due("input 0 of saved(" + first[0] + ",1)", inputOf(first[0], 0), first[1] % 52);
        }
    }

    /** Promise 27, with every int of SEEDS and each number of blocks. */
    private static void drawnPrograms() {
        for (int seed : SEEDS) {
            for (int n = 1; n <= 8; n++) {
                KnownTurns x = new KnownTurns();
                CHECK.due("draw(" + seed + "," + n + ")", x.draw(seed, n), Drawn.testsOf(seed, n));
                CHECK.due("program(0,0)", x.program(0, 0), n);
                CHECK.due("program(1,0)", x.program(1, 0), n);
                Drawn drawn = new Drawn(seed);
                for (int b = 0; b < n; b++) {
                    drawnBlock(x, drawn, b, n);
                }
                CHECK.due("the same once more", x.draw(seed, n), Drawn.testsOf(seed, n));
                CHECK.due("block(0," + n + ",0)", x.block(0, n, 0), -1);
            }
        }
    }

    private static void drawnBlock(KnownTurns x, Drawn drawn, int b, int n) {
        int acts = drawn.modulo(4);
        CHECK.due("the number of acts", x.block(0, b, 0), acts);
        for (int i = 0; i < acts; i++) {
            int kind = drawn.modulo(6);
            CHECK.due("its kind", x.act(0, b, i, 0), kind);
            CHECK.due("v", x.act(0, b, i, 1), drawn.modulo(4));
            CHECK.due("n or w", x.act(0, b, i, 2),
                kind == 0 ? drawn.modulo(51) : kind <= 2 ? drawn.modulo(5) : kind == 3 ? drawn.modulo(4) : -4);
        }
        int end = drawn.modulo(5);
        CHECK.due("the end", x.block(0, b, 1), end == 4 ? 2 : end);
        if (end >= 2) {
            CHECK.due("v of the test", x.block(0, b, 4), drawn.modulo(4));
            int g = drawn.whole();
            CHECK.due("whether x is a variable", x.block(0, b, 5), g % 2);
            CHECK.due("x", x.block(0, b, 6), g / 8 % (g % 2 == 0 ? 51 : 4));
        }
        CHECK.due("side 0", x.block(0, b, 2), end >= 1 ? drawn.modulo(n) : -4);
        CHECK.due("side 1", x.block(0, b, 3), end >= 2 ? drawn.modulo(n) : -4);
    }

    /** A seed whose fourth draw is g, while the first two make a test without acts: found by going back from the end. */
    private static int seedOfG(int g) {
        for (int low = 0; low < 131072; low++) {
            // The sign and the low half of a seed are no part of the draw, so they are free.
            int seed = (g << 16) + (low << 31 | low >>> 1);
            for (int back = 0; back < 4; back++) {
                seed = seedOfProduct(seed - 12345);
            }
            Drawn drawn = new Drawn(seed);
            if (drawn.modulo(4) == 0 && drawn.modulo(5) >= 2) {
                return seed;
            }
        }
        throw new IllegalStateException("there is no seed for " + g);
    }

    /** "if g is even, x is the number (g / 8) modulo 51, otherwise the variable (g / 8) modulo 4", from 0 to 32767. */
    private static void drawnNumbers() {
        int[][] due = {{0, 0, 0}, {1, 1, 0}, {6, 0, 0}, {7, 1, 0}, {8, 0, 1}, {9, 1, 1}, {24, 0, 3}, {31, 1, 3}, {32, 0, 4}, {33, 1, 0},
            {400, 0, 50}, {406, 0, 50}, {407, 1, 2}, {408, 0, 0}, {409, 1, 3}, {414, 0, 0}, {32760, 0, 15}, {32766, 0, 15}, {32767, 1, 3}};
        for (int[] row : due) {
            int seed = seedOfG(row[0]);
            KnownTurns x = new KnownTurns();
            CHECK.due("draw() with g = " + row[0], x.draw(seed, 1), 1);
            CHECK.due("whether x is a variable with g = " + row[0], x.block(0, 0, 5), row[1]);
            CHECK.due("x with g = " + row[0], x.block(0, 0, 6), row[2]);
            Drawn drawn = new Drawn(seed);
            drawn.whole();
            drawn.whole();
            CHECK.due("v with g = " + row[0], x.block(0, 0, 4), drawn.modulo(4));
            CHECK.due("g", drawn.whole(), row[0]);
        }
    }

    /** Saves one test in each run in which the test, such as "<9" or "=50", holds for input i. */
    private static KnownTurns probe(int i, String tested) {
        StringBuilder text = new StringBuilder();
        int blocks = i / 4;
        for (int read = 0; read <= i; read++) {
            text.append("read a ");
            if (read % 4 == 3 && read < i) {
                text.append("go ").append(read / 4 + 1).append(';');
            }
        }
        String test = "if a" + tested;
        text.append(test).append(' ').append(blocks + 1).append(' ').append(blocks + 2).append(';');
        text.append(test).append(' ').append(blocks + 2).append(' ').append(blocks + 2).append(";stop;");
        KnownTurns x = Check.of(text.toString());
        // The second test is known, since it is entered only if the first one held.
        CHECK.due("fold() of the probe " + text, x.fold(), 1);
        return x;
    }

    /** Input i of the first run of saved(), found by asking for all numbers; nil if it is none. */
    private static int inputOf(int seed, int i) {
        for (int n = 1; n <= 50; n++) {
            if (probe(i, "<" + n).saved(seed, 1) == 1) {
                return n - 1;
            }
        }
        return probe(i, "=50").saved(seed, 1) == 1 ? 50 : 51;
    }

    /** "For each of n runs the inputs 0 to 7 are, in this order, a draw modulo 52 each". */
    private static void drawnInputs() {
        for (int i = 0; i < 8; i++) {
            for (int n = 1; n <= 50; n += 7) {
                KnownTurns x = probe(i, "<" + n);
                for (int seed : SEEDS) {
                    Drawn drawn = new Drawn(seed);
                    int due = 0;
                    for (int all = 0; all < 8; all++) {
                        due += drawn.modulo(52) < n && all == i ? 1 : 0;
                    }
                    CHECK.due("saved(" + seed + ",1) of input " + i + " < " + n, x.saved(seed, 1), due);
                }
            }
            // Among a hundred seeds there are some for each value, 50 and nil included.
            KnownTurns last = probe(i, "=50");
            for (int seed = 0; seed < 100; seed++) {
                Drawn drawn = new Drawn(seed * 40503 - MAX);
                int due = 0;
                for (int all = 0; all < 8; all++) {
                    due += drawn.modulo(52) == 50 && all == i ? 1 : 0;
                }
                CHECK.due("saved() of input " + i + " = 50", last.saved(seed * 40503 - MAX, 1), due);
            }
        }
    }

    /** "Returns the sum, over all runs, of the tests executed by the original minus those executed by the current program". */
    private static void sumsOfRuns() {
        for (int i : new int[] {0, 3, 4, 7}) {
            KnownTurns x = probe(i, "<26");
            for (int seed : SEEDS) {
                Drawn drawn = new Drawn(seed);
                int due = 0;
                for (int n = 1; n <= 10; n++) {
                    for (int all = 0; all < 8; all++) {
                        due += drawn.modulo(52) < 26 && all == i ? 1 : 0;
                    }
                    CHECK.due("saved(" + seed + "," + n + ") of input " + i, x.saved(seed, n), due);
                }
            }
        }
        // Runs that are cut count too: 60 tests in each of them.
        KnownTurns cut = Check.of("if a<5 0 0;");
        CHECK.due("fold()", cut.fold(), 1);
        CHECK.due("saved(MIN,1)", cut.saved(MIN, 1), 60);
        CHECK.due("saved(MAX,10)", cut.saved(MAX, 10), 600);
        CHECK.due("saved(0,1) without blocks", new KnownTurns().saved(0, 1), 0);
    }
}
