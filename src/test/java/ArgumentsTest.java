/**
 * The ranges of the arguments, promise by promise: the last one that is allowed, the first one that is not, on both
 * sides, and the smallest and the largest int. Each call is the first one on a new object of the kind that is named.
 */
public final class ArgumentsTest {
    static final String CHAIN = "read a if a<9 1 1;if a<9 2 2;if a<9 3 3;if a<9 4 4;write a if a<9 5 5;if a<9 6 6;"
        + "if a<9 7 7;stop;";
    private static final int MIN = Integer.MIN_VALUE, MAX = Integer.MAX_VALUE;
    private static final Check CHECK = new Check();
    private static final Bounds NEW = new Bounds(CHECK, KnownTurns::new);
    private static final Bounds CHAINED = new Bounds(CHECK, () -> Check.of(CHAIN));
    private static final Bounds FULL = new Bounds(CHECK, ArgumentsTest::sixteen);

    public static void main(String[] args) {
        tape();
        programs();
        blocksAndActs();
        actIndex();
        ranges();
        edges();
        dominators();
        threading();
        runs();
        draws();
        leads();
        images();
        sheets();
        readings();
        counts();
        withoutBlocks();
        CHECK.finish();
    }

    /** Eight blocks, of which eight edges were threaded: the current program is full, and block 15 goes to block 11. */
    static KnownTurns sixteen() {
        KnownTurns x = Check.of(CHAIN);
        x.threads(16);
        return x;
    }

    private static KnownTurns taped(int length) {
        KnownTurns x = new KnownTurns();
        Check.type(x, " ".repeat(length));
        return x;
    }

    /** Promise 2: "c: the byte, 0 to 127"; promise 3: "n: 0 to the length of the tape". */
    private static void tape() {
        NEW.between("feed(#)", 0, 1, 127, 1, (x, c) -> x.feed(c));
        NEW.between("end(#) of nothing", 0, 0, 0, 0, (x, n) -> x.end(n));
        new Bounds(CHECK, () -> taped(1)).between("end(#) of 1", 0, 1, 1, 1, (x, n) -> x.end(n));
        new Bounds(CHECK, () -> taped(200)).between("end(#) of 200", 0, 200, 200, 200, (x, n) -> x.end(n));
    }

    /** Promise 6: "BAD if p or what is out of range". */
    private static void programs() {
        FULL.between("program(#,0)", 0, 8, 1, 16, (x, p) -> x.program(p, 0));
        FULL.between("program(#,8)", 0, -4, 1, 0, (x, p) -> x.program(p, 8));
        FULL.between("program(0,#)", 0, 8, 8, -4, (x, what) -> x.program(0, what));
        FULL.between("program(1,#)", 0, 16, 8, 0, (x, what) -> x.program(1, what));
        int[] due = {16, 2, 7, 22, 12, 14, 0, 0, 0};
        for (int what = 0; what < due.length; what++) {
            FULL.answers("program(1,#)", what, due[what], (x, asked) -> x.program(1, asked));
        }
        FULL.answers("program(0,#), the last that the original has", 3, 14, (x, what) -> x.program(0, what));
        FULL.answers("program(0,#), the first that it has not", 4, -4, (x, what) -> x.program(0, what));
    }

    /** Promises 7 and 8: "BAD if p or what is out of range or there is no such block". */
    private static void blocksAndActs() {
        FULL.between("block(#,0,2)", 0, 1, 1, 8, (x, p) -> x.block(p, 0, 2));
        FULL.between("block(0,#,1)", 0, 2, 7, 0, (x, b) -> x.block(0, b, 1));
        FULL.between("block(1,#,1)", 0, 2, 15, 1, (x, b) -> x.block(1, b, 1));
        FULL.between("block(0,7,#)", 0, 0, 7, 7, (x, what) -> x.block(0, 7, what));
        FULL.between("block(1,15,#)", 0, 0, 7, 2, (x, what) -> x.block(1, 15, what));
        FULL.between("act(#,0,0,0)", 0, 4, 1, 4, (x, p) -> x.act(p, 0, 0, 0));
        FULL.between("act(0,#,0,0)", 0, 4, 7, -4, (x, b) -> x.act(0, b, 0, 0));
        FULL.between("act(1,#,0,0)", 0, 4, 15, -4, (x, b) -> x.act(1, b, 0, 0));
        FULL.between("act(1,4,0,#)", 0, 5, 2, -4, (x, what) -> x.act(1, 4, 0, what));
    }

    /** Promise 8: "NONE if the block has not so many acts; BAD if .. i is negative". */
    private static void actIndex() {
        Bounds four = new Bounds(CHECK, () -> Check.of("read a set b 9 add c 8 sub d 7 stop;"));
        for (int program = 0; program < 2; program++) {
            int p = program;
            four.from("act(p,0,#,0)", 0, 4, (x, i) -> x.act(p, 0, i, 0));
            four.answers("act(p,0,#,2)", 3, 7, (x, i) -> x.act(p, 0, i, 2));
            four.answers("act(p,0,#,2)", 4, -4, (x, i) -> x.act(p, 0, i, 2));
            four.answers("act(p,0,#,2)", MAX, -4, (x, i) -> x.act(p, 0, i, 2));
            CHAINED.from("act(p,0,#,0)", 0, 4, (x, i) -> x.act(p, 0, i, 0));
            CHAINED.answers("act(p,0,#,0)", 1, -4, (x, i) -> x.act(p, 0, i, 0));
            CHAINED.from("act(p,7,#,0)", 0, -4, (x, i) -> x.act(p, 7, i, 0));
        }
    }

    /** Promise 9: "BAD if there is no such block or variable, or what is out of range". */
    private static void ranges() {
        FULL.between("range(#,0,2)", 0, 1, 15, 1, (x, b) -> x.range(b, 0, 2));
        FULL.between("range(15,#,0)", 0, 9, 3, -4, (x, v) -> x.range(15, v, 0));
        FULL.between("range(15,0,#)", 0, 9, 2, 1, (x, what) -> x.range(15, 0, what));
        FULL.answers("range(15,0,#)", 1, 50, (x, what) -> x.range(15, 0, what));
        CHAINED.between("range(#,0,0)", 0, -4, 7, 0, (x, b) -> x.range(b, 0, 0));
    }

    /** Promises 10 to 13: "BAD if there is no such edge"; a go has side 0 alone, a stop has no side. */
    private static void edges() {
        FULL.between("along(#,0,0,1)", 0, 8, 15, 50, (x, b) -> x.along(b, 0, 0, 1));
        FULL.between("along(0,#,0,0)", 0, 0, 1, 9, (x, side) -> x.along(0, side, 0, 0));
        FULL.between("along(15,#,0,0)", 0, 9, 0, 9, (x, side) -> x.along(15, side, 0, 0));
        FULL.between("along(0,0,#,0)", 0, 0, 3, -4, (x, v) -> x.along(0, 0, v, 0));
        FULL.between("along(0,1,0,#)", 0, 9, 2, 1, (x, what) -> x.along(0, 1, 0, what));
        FULL.between("outcome(#)", 0, 0, 15, -4, (x, b) -> x.outcome(b));
        FULL.between("known(#,0)", 0, -4, 15, -4, (x, b) -> x.known(b, 0));
        FULL.between("known(15,#)", 0, -4, 0, -4, (x, side) -> x.known(15, side));
        CHAINED.between("known(#,1)", 0, 2, 6, -4, (x, b) -> x.known(b, 1));
        CHAINED.between("known(0,#)", 0, 1, 1, 2, (x, side) -> x.known(0, side));
        FULL.between("why(#,0)", 0, 2, 15, 2, (x, b) -> x.why(b, 0));
        FULL.between("why(15,#)", 0, 2, 0, 2, (x, side) -> x.why(15, side));
        CHAINED.between("why(#,1)", 0, 0, 6, 2, (x, b) -> x.why(b, 1));
        CHAINED.between("why(0,#)", 0, 0, 1, 0, (x, side) -> x.why(0, side));
        for (int side : new int[] {0, 1, -1, 2, MIN, MAX}) {
            CHAINED.answers("along(7,#,0,0) of a stop", side, -1, (x, asked) -> x.along(7, asked, 0, 0));
            CHAINED.answers("known(7,#) of a stop", side, -1, (x, asked) -> x.known(7, asked));
            CHAINED.answers("why(7,#) of a stop", side, -1, (x, asked) -> x.why(7, asked));
            CHAINED.answers("thread(7,#) of a stop", side, -1, (x, asked) -> x.thread(7, asked));
            CHAINED.answers("lead(7,#,0) of a stop", side, -1, (x, asked) -> x.lead(7, asked, 0));
        }
    }

    /** Promises 14 and 15: "BAD if there is no such block", "or what is out of range". */
    private static void dominators() {
        FULL.between("dominates(#,15)", 0, 1, 15, 1, (x, a) -> x.dominates(a, 15));
        FULL.between("dominates(0,#)", 0, 1, 15, 1, (x, b) -> x.dominates(0, b));
        FULL.between("dominates(15,#)", 0, 0, 15, 1, (x, b) -> x.dominates(15, b));
        FULL.between("loop(#,0)", 0, 0, 15, 0, (x, b) -> x.loop(b, 0));
        FULL.between("loop(#,1)", 0, -4, 15, 9, (x, b) -> x.loop(b, 1));
        FULL.between("loop(15,#)", 0, 0, 1, 9, (x, what) -> x.loop(15, what));
    }

    /** Promises 16, 17 and 20: "BAD if there is no such edge"; "n: 1 to 16"; "v: the new limit, 0 to 4". */
    private static void threading() {
        FULL.between("thread(#,0)", 0, -2, 15, -2, (x, b) -> x.thread(b, 0));
        FULL.between("thread(15,#)", 0, -2, 0, -2, (x, side) -> x.thread(15, side));
        CHAINED.between("thread(#,0)", 0, 8, 6, -2, (x, b) -> x.thread(b, 0));
        CHAINED.between("thread(0,#)", 0, 8, 1, 8, (x, side) -> x.thread(0, side));
        CHAINED.between("threads(#)", 1, 1, 16, 8, (x, n) -> x.threads(n));
        FULL.between("threads(#)", 1, 0, 16, 0, (x, n) -> x.threads(n));
        NEW.between("limit(#)", 0, 4, 4, 4, (x, v) -> x.limit(v));
        for (int v = 0; v <= 4; v++) {
            NEW.answers("limit(#), then limit(4)", v, v, (x, limit) -> x.limit(limit) == 4 ? x.limit(4) : -9);
            NEW.answers("limit(#), then count(4)", v, v, (x, limit) -> x.limit(limit) == 4 ? x.count(4) : -9);
        }
    }

    /** Promises 21 to 24: "BAD if i or v is out of range", "if p or what is out of range", "or i is negative". */
    private static void runs() {
        NEW.between("input(#,9)", 0, 51, 7, 51, (x, i) -> x.input(i, 9));
        NEW.between("input(7,#)", 0, 51, 51, 51, (x, v) -> x.input(7, v));
        for (int v : new int[] {0, 1, 49, 50, 51}) {
            NEW.answers("input(7,#), then input(7,9)", v, v, (x, value) -> x.input(7, value) == 51 ? x.input(7, 9) : -9);
        }
        FULL.between("ran(#,2)", 0, 7, 1, 3, (x, p) -> x.ran(p, 2));
        FULL.between("ran(0,#)", 0, 8, 9, 1, (x, what) -> x.ran(0, what));
        FULL.between("ran(1,#)", 0, 8, 9, 1, (x, what) -> x.ran(1, what));
        FULL.between("wrote(#,0)", 0, 51, 1, 51, (x, p) -> x.wrote(p, 0));
        FULL.between("path(#,5)", 0, 5, 1, 13, (x, p) -> x.path(p, 5));
        for (int program = 0; program < 2; program++) {
            int p = program;
            FULL.from("wrote(p,#)", 0, 51, (x, i) -> x.wrote(p, i));
            FULL.answers("wrote(p,#)", 1, -4, (x, i) -> x.wrote(p, i));
            FULL.answers("wrote(p,#)", MAX, -4, (x, i) -> x.wrote(p, i));
            FULL.from("path(p,#)", 0, 0, (x, i) -> x.path(p, i));
            FULL.answers("path(p,#)", 7, 7, (x, i) -> x.path(p, i));
            FULL.answers("path(p,#)", 8, -4, (x, i) -> x.path(p, i));
            FULL.answers("path(p,#)", MAX, -4, (x, i) -> x.path(p, i));
        }
    }

    /** Promises 25 and 27: "n: the number of runs, 1 to 10"; "n: the number of blocks, 1 to 8"; any int is a seed. */
    private static void draws() {
        for (int seed : new int[] {MIN, -1, 0, 1, MAX}) {
            CHAINED.between("saved(seed,#)", 1, 0, 10, 0, (x, n) -> x.saved(seed, n));
            NEW.between("draw(seed,#)", 1, Drawn.testsOf(seed, 1), 8, Drawn.testsOf(seed, 8), (x, n) -> x.draw(seed, n));
            NEW.answers("draw(seed,#), then program(0,0)", 1, 1, (x, n) -> x.draw(seed, n) < 0 ? -9 : x.program(0, 0));
            NEW.answers("draw(seed,#), then program(1,0)", 8, 8, (x, n) -> x.draw(seed, n) < 0 ? -9 : x.program(1, 0));
            // The seven tests of a run become three, whatever the inputs are.
            FULL.between("saved(seed,#)", 1, 4, 10, 40, (x, n) -> x.saved(seed, n));
        }
    }

    /** Promise 26: "BAD if there is no such edge or no block t", all of the original. */
    private static void leads() {
        FULL.between("lead(#,0,0)", 0, 1, 6, 7, (x, b) -> x.lead(b, 0, 0));
        FULL.between("lead(6,#,0)", 0, 7, 1, 7, (x, side) -> x.lead(6, side, 0));
        FULL.between("lead(0,1,#)", 0, 1, 7, 1, (x, t) -> x.lead(0, 1, t));
        Bounds go = new Bounds(CHECK, () -> Check.of("go 0;"));
        go.between("lead(0,#,0)", 0, 0, 0, 0, (x, side) -> x.lead(0, side, 0));
        go.between("lead(0,0,#)", 0, 0, 0, 0, (x, t) -> x.lead(0, 0, t));
    }

    private static KnownTurns kept() {
        KnownTurns x = sixteen();
        x.keep(0);
        x.sweep();
        x.keep(1);
        return x;
    }

    /** Promises 28 and 29: "k: the image, 0 or 1". */
    private static void images() {
        Bounds bounds = new Bounds(CHECK, ArgumentsTest::kept);
        FULL.between("keep(#)", 0, 0, 1, 0, (x, k) -> x.keep(k));
        bounds.between("keep(#)", 0, 1, 1, 1, (x, k) -> x.keep(k));
        FULL.between("back(#)", 0, -2, 1, -2, (x, k) -> x.back(k));
        bounds.between("back(#)", 0, 16, 1, 12, (x, k) -> x.back(k));
    }

    private static KnownTurns sheeted(int n) {
        KnownTurns x = new KnownTurns();
        for (int k = 0; k < 4; k++) {
            x.sheet(k, 2, n);
        }
        return x;
    }

    /** Promises 30 and 31: "BAD if k or lane is out of range or n is above 40; -14 .. if n is negative"; -11; -12. */
    private static void sheets() {
        NEW.between("sheet(#,0,5)", 0, 1, 3, 1, (x, k) -> x.sheet(k, 0, 5));
        NEW.between("sheet(0,#,5)", 0, 1, 2, 1, (x, lane) -> x.sheet(0, lane, 5));
        for (int type = 0; type < 3; type++) {
            int lane = type;
            NEW.upTo("sheet(3,lane,#)", 40, 1, (x, n) -> x.sheet(3, lane, n));
            NEW.answers("sheet(3,lane,#)", 0, 1, (x, n) -> x.sheet(3, lane, n));
            NEW.answers("sheet(3,lane,#)", -1, -14, (x, n) -> x.sheet(3, lane, n));
            NEW.answers("sheet(3,lane,#)", MIN, -14, (x, n) -> x.sheet(3, lane, n));
        }
        NEW.between("lay(#,0,0)", 0, -11, 3, -11, (x, k) -> x.lay(k, 0, 0));
        for (int length : new int[] {1, 2, 40}) {
            Bounds bounds = new Bounds(CHECK, () -> sheeted(length));
            bounds.between("lay(#,0,0)", 0, 1, 3, 1, (x, k) -> x.lay(k, 0, 0));
            bounds.answers("lay(3,#,0)", 0, 1, (x, i) -> x.lay(3, i, 0));
            bounds.answers("lay(3,#,0)", length - 1, 1, (x, i) -> x.lay(3, i, 0));
            for (int outside : new int[] {-1, length, MIN, MAX}) {
                bounds.answers("lay(3,#,0)", outside, -12, (x, i) -> x.lay(3, i, 0));
            }
            bounds.answers("lay(3,0,#)", MIN, 1, (x, v) -> x.lay(3, 0, v));
            bounds.answers("lay(3,0,#)", MAX, 1, (x, v) -> x.lay(3, 0, v));
        }
        Bounds none = new Bounds(CHECK, () -> sheeted(0));
        for (int i : new int[] {0, -1, 1, MIN, MAX}) {
            none.answers("lay(3,#,0) of no elements", i, -12, (x, index) -> x.lay(3, index, 0));
        }
    }

    /** Promise 32: "BAD if k, lane or n is out of range"; f is any int. */
    private static void readings() {
        Bounds bounds = new Bounds(CHECK, () -> sheeted(40));
        bounds.between("read(#,2,0,8)", 0, 8, 3, 8, (x, k) -> x.read(k, 2, 0, 8));
        bounds.between("read(3,#,0,8)", 0, 0, 2, 8, (x, lane) -> x.read(3, lane, 0, 8));
        bounds.between("read(3,2,0,#)", 0, 0, 8, 8, (x, n) -> x.read(3, 2, 0, n));
        int[][] starts = {{0, 8}, {32, 8}, {33, 7}, {39, 1}, {40, 0}, {-1, 0}, {-8, 0}, {MIN, 0}, {MAX, 0}, {MAX - 7, 0}};
        for (int[] start : starts) {
            bounds.answers("read(3,2,#,8)", start[0], start[1], (x, f) -> x.read(3, 2, f, 8));
            bounds.answers("read(3,2,#,8), then torn()", start[0], start[1] == 8 ? 0 : 2,
                (x, f) -> x.read(3, 2, f, 8) < 0 ? -9 : x.torn());
        }
        NEW.between("read(#,2,0,8)", 0, 0, 3, 0, (x, k) -> x.read(k, 2, 0, 8));
        NEW.between("read(3,2,0,#)", 0, 0, 8, 0, (x, n) -> x.read(3, 2, 0, n));
    }

    /** Promise 34: "BAD if what is not 0 to 4". */
    private static void counts() {
        NEW.between("count(#)", 0, 0, 4, 4, (x, what) -> x.count(what));
    }

    /** "there is no such block": a program without blocks has none, not even block 0. */
    private static void withoutBlocks() {
        for (int b : new int[] {0, -1, 1, 7, 8, 15, 16, MIN, MAX}) {
            for (int program = 0; program < 2; program++) {
                int p = program;
                NEW.answers("block(p,#,0)", b, -1, (x, asked) -> x.block(p, asked, 0));
                NEW.answers("act(p,#,0,0)", b, -1, (x, asked) -> x.act(p, asked, 0, 0));
            }
            NEW.answers("range(#,0,0)", b, -1, (x, asked) -> x.range(asked, 0, 0));
            NEW.answers("along(#,0,0,0)", b, -1, (x, asked) -> x.along(asked, 0, 0, 0));
            NEW.answers("outcome(#)", b, -1, (x, asked) -> x.outcome(asked));
            NEW.answers("known(#,0)", b, -1, (x, asked) -> x.known(asked, 0));
            NEW.answers("why(#,0)", b, -1, (x, asked) -> x.why(asked, 0));
            NEW.answers("dominates(#,0)", b, -1, (x, asked) -> x.dominates(asked, 0));
            NEW.answers("dominates(0,#)", b, -1, (x, asked) -> x.dominates(0, asked));
            NEW.answers("loop(#,0)", b, -1, (x, asked) -> x.loop(asked, 0));
            NEW.answers("loop(#,1)", b, -1, (x, asked) -> x.loop(asked, 1));
            NEW.answers("thread(#,0)", b, -1, (x, asked) -> x.thread(asked, 0));
            NEW.answers("lead(#,0,0)", b, -1, (x, asked) -> x.lead(asked, 0, 0));
        }
        KnownTurns emptied = Check.of("if a<b 0 0;");
        CHECK.due("program(1,4)", emptied.program(1, 4), 1);
        CHECK.due("text() of nothing", emptied.text(), 0);
        for (int what = 0; what <= 8; what++) {
            NEW.answers("program(0,#)", what, what < 4 ? 0 : -4, (x, asked) -> x.program(0, asked));
            NEW.answers("program(1,#)", what, 0, (x, asked) -> x.program(1, asked));
            CHECK.due("program(0," + what + ") behind text() of nothing", emptied.program(0, what), what < 4 ? 0 : -4);
            CHECK.due("program(1," + what + ") behind text() of nothing", emptied.program(1, what), 0);
        }
        NEW.between("threads(#)", 1, 0, 16, 0, (x, n) -> x.threads(n));
        CHECK.due("fold()", new KnownTurns().fold(), 0);
        CHECK.due("sweep()", new KnownTurns().sweep(), 0);
    }
}
