import java.util.List;
import java.util.Map;
import java.util.Set;
import java.util.TreeSet;
import java.util.function.Supplier;
import java.util.function.ToIntFunction;

/** "A call that returns an error changes nothing, unless the method says otherwise", and what a call that changes one thing leaves. */
public final class RefusedTest {
    private static final int MIN = Integer.MIN_VALUE, MAX = Integer.MAX_VALUE;
    private static final Check CHECK = new Check();
    private static final List<Kind> KINDS = List.of(new Kind("new", KnownTurns::new), new Kind("busy", RefusedTest::busy),
        new Kind("sixteen", RefusedTest::sixteen), new Kind("full tape", RefusedTest::fullTape));
    private static final Kind NEW = KINDS.get(0), BUSY = KINDS.get(1), SIXTEEN = KINDS.get(2), FULL_TAPE = KINDS.get(3);
    private static final Set<String> OF_CURRENT = Set.of("the blocks of program 1", "the acts of program 1",
        "the runs of program 1", "the ranges along side 0", "the ranges along side 1", "the ranges before blocks",
        "the outcomes and reasons", "the dominators");
    private static final Set<String> OF_ORIGINAL = Set.of("the blocks of program 0", "the acts of program 0",
        "the runs of program 0");
    private static final Set<String> OF_IMAGES = Set.of("the number of images", "the blocks in image 0",
        "the acts in image 0", "the blocks in image 1", "the acts in image 1");
    private static final Set<String> OF_INPUTS = Set.of("the inputs", "the runs of program 0", "the runs of program 1");
    private static final Set<String> OF_TAPE = Set.of("the tape");

    private record Kind(String name, Supplier<KnownTurns> maker, Map<String, String> views) {
        Kind(String name, Supplier<KnownTurns> maker) {
            this(name, maker, Portrait.of(maker));
        }
    }

    public static void main(String[] args) {
        for (Kind kind : KINDS) {
            tapeOutOfRange(kind);
            blocksOutOfRange(kind);
            edgesOutOfRange(kind);
            changesOutOfRange(kind);
            runsOutOfRange(kind);
            arraysOutOfRange(kind);
        }
        fullTapes();
        states();
        reasons();
        arrayFaults();
        noValues();
        nothingThere();
        questions();
        faultyTexts();
        newOriginals();
        changes();
        askedBefore();
        CHECK.finish();
    }

    // ---- objects

    /** Different programs, images that differ from both, arrays, inputs, a limit, a fault, a torn and a text on the tape. */
    static KnownTurns busy() {
        KnownTurns x = Check.of("read a if a<9 1 1;write a if a<9 2 3;if a<5 3 3;read b stop;if c=d 0 0;");
        x.keep(0);
        x.threads(1);
        x.keep(1);
        x.sweep();
        x.limit(2);
        Check.type(x, "?");
        x.text();
        Check.type(x, "set d 7 go 0;");
        x.sheet(0, 1, 3);
        x.lay(0, 1, 52);
        x.lay(0, 2, 51);
        x.sheet(1, 0, 40);
        x.lay(1, 39, 33);
        x.sheet(2, 2, 0);
        x.input(0, 4);
        x.input(7, 50);
        x.read(1, 1, 0, 1);
        return x;
    }

    /** The current program has no room; array 3 is there, the others are missing. */
    private static KnownTurns sixteen() {
        KnownTurns x = ArgumentsTest.sixteen();
        x.keep(1);
        x.sheet(3, 2, 2);
        x.lay(3, 0, MIN);
        x.read(0, 0, 0, 1);
        return x;
    }

    private static KnownTurns fullTape() {
        KnownTurns x = new KnownTurns();
        Check.type(x, " ".repeat(195) + "stop;");
        return x;
    }

    // ---- how it is looked at

    private static void leaves(Kind kind, String name, int due, Set<String> changed, ToIntFunction<KnownTurns> call) {
        String where = name + " of the object " + kind.name;
        CHECK.due(where, call.applyAsInt(kind.maker.get()), due);
        Map<String, String> views = Portrait.of(() -> {
            KnownTurns x = kind.maker.get();
            call.applyAsInt(x);
            return x;
        });
        for (String view : views.keySet()) {
            if (!changed.contains(view)) {
                CHECK.holds(where + " leaves " + view, views.get(view).equals(kind.views.get(view)));
            }
        }
    }

    private static void refused(Kind kind, String name, int due, ToIntFunction<KnownTurns> call) {
        leaves(kind, name, due, Set.of(), call);
    }

    private static void bad(Kind kind, String name, ToIntFunction<KnownTurns> call) {
        refused(kind, name, -1, call);
    }

    // ---- BAD, in whatever state the object is

    private static void tapeOutOfRange(Kind kind) {
        for (int c : new int[] {-1, 128, MIN, MAX}) {
            bad(kind, "feed(" + c + ")", x -> x.feed(c));
        }
        for (int n : new int[] {-1, 201, MIN, MAX}) {
            bad(kind, "end(" + n + ")", x -> x.end(n));
        }
    }

    private static void blocksOutOfRange(Kind kind) {
        for (int p : new int[] {-1, 2, MIN, MAX}) {
            bad(kind, "program(p,0)", x -> x.program(p, 0));
            bad(kind, "block(p,0,0)", x -> x.block(p, 0, 0));
            bad(kind, "act(p,0,0,0)", x -> x.act(p, 0, 0, 0));
        }
        for (int what : new int[] {-1, 9, MIN, MAX}) {
            bad(kind, "program(1,what)", x -> x.program(1, what));
            bad(kind, "block(1,0,what)", x -> x.block(1, 0, what));
            bad(kind, "act(1,0,0,what)", x -> x.act(1, 0, 0, what));
            bad(kind, "range(0,0,what)", x -> x.range(0, 0, what));
            bad(kind, "loop(0,what)", x -> x.loop(0, what));
        }
        for (int b : new int[] {-1, 16, MIN, MAX}) {
            bad(kind, "block(1,b,0)", x -> x.block(1, b, 0));
            bad(kind, "act(1,b,0,0)", x -> x.act(1, b, 0, 0));
            bad(kind, "range(b,0,0)", x -> x.range(b, 0, 0));
            bad(kind, "outcome(b)", x -> x.outcome(b));
            bad(kind, "dominates(b,0)", x -> x.dominates(b, 0));
            bad(kind, "dominates(0,b)", x -> x.dominates(0, b));
            bad(kind, "loop(b,1)", x -> x.loop(b, 1));
        }
    }

    private static void edgesOutOfRange(Kind kind) {
        for (int b : new int[] {-1, 16, MIN, MAX}) {
            bad(kind, "along(b,0,0,0)", x -> x.along(b, 0, 0, 0));
            bad(kind, "known(b,0)", x -> x.known(b, 0));
            bad(kind, "why(b,0)", x -> x.why(b, 0));
            bad(kind, "thread(b,0)", x -> x.thread(b, 0));
            bad(kind, "lead(b,0,0)", x -> x.lead(b, 0, 0));
            bad(kind, "lead(0,0,b)", x -> x.lead(0, 0, b));
        }
        for (int side : new int[] {-1, 2, MIN, MAX}) {
            bad(kind, "along(0,side,0,0)", x -> x.along(0, side, 0, 0));
            bad(kind, "known(0,side)", x -> x.known(0, side));
            bad(kind, "why(0,side)", x -> x.why(0, side));
            bad(kind, "thread(0,side)", x -> x.thread(0, side));
            bad(kind, "lead(0,side,0)", x -> x.lead(0, side, 0));
        }
        for (int v : new int[] {-1, 4, MIN, MAX}) {
            bad(kind, "range(0,v,0)", x -> x.range(0, v, 0));
            bad(kind, "along(0,0,v,0)", x -> x.along(0, 0, v, 0));
            bad(kind, "along(0,0,0,v)", x -> x.along(0, 0, 0, v));
        }
    }

    private static void changesOutOfRange(Kind kind) {
        for (int n : new int[] {0, -1, 17, MIN, MAX}) {
            bad(kind, "threads(n)", x -> x.threads(n));
            bad(kind, "draw(5,n)", x -> x.draw(5, n));
            bad(kind, "saved(5,n)", x -> x.saved(5, n));
        }
        bad(kind, "draw(5,9)", x -> x.draw(5, 9));
        bad(kind, "saved(5,11)", x -> x.saved(5, 11));
        for (int v : new int[] {-1, 5, MIN, MAX}) {
            bad(kind, "limit(v)", x -> x.limit(v));
        }
        for (int k : new int[] {-1, 2, MIN, MAX}) {
            bad(kind, "keep(k)", x -> x.keep(k));
            bad(kind, "back(k)", x -> x.back(k));
        }
    }

    private static void runsOutOfRange(Kind kind) {
        for (int i : new int[] {-1, 8, MIN, MAX}) {
            bad(kind, "input(i,3)", x -> x.input(i, 3));
        }
        for (int v : new int[] {-1, 52, MIN, MAX}) {
            bad(kind, "input(0,v)", x -> x.input(0, v));
        }
        for (int p : new int[] {-1, 2, MIN, MAX}) {
            bad(kind, "ran(p,0)", x -> x.ran(p, 0));
            bad(kind, "wrote(p,0)", x -> x.wrote(p, 0));
            bad(kind, "path(p,0)", x -> x.path(p, 0));
        }
        for (int what : new int[] {-1, 10, MIN, MAX}) {
            bad(kind, "ran(1,what)", x -> x.ran(1, what));
        }
        for (int i : new int[] {-1, MIN}) {
            bad(kind, "wrote(1,i)", x -> x.wrote(1, i));
            bad(kind, "path(1,i)", x -> x.path(1, i));
        }
    }

    private static void arraysOutOfRange(Kind kind) {
        for (int k : new int[] {-1, 4, MIN, MAX}) {
            bad(kind, "sheet(k,0,1)", x -> x.sheet(k, 0, 1));
            bad(kind, "lay(k,0,1)", x -> x.lay(k, 0, 1));
            bad(kind, "read(k,0,0,1)", x -> x.read(k, 0, 0, 1));
        }
        for (int lane : new int[] {-1, 3, MIN, MAX}) {
            bad(kind, "sheet(0,lane,1)", x -> x.sheet(0, lane, 1));
            bad(kind, "read(0,lane,0,1)", x -> x.read(0, lane, 0, 1));
        }
        for (int n : new int[] {41, MAX}) {
            bad(kind, "sheet(0,0,n)", x -> x.sheet(0, 0, n));
        }
        for (int n : new int[] {-1, MIN}) {
            refused(kind, "sheet(0,2,n)", -14, x -> x.sheet(0, 2, n));
            refused(kind, "sheet(3,0,n)", -14, x -> x.sheet(3, 0, n));
        }
        for (int n : new int[] {-1, 9, MIN, MAX}) {
            bad(kind, "read(1,0,0,n)", x -> x.read(1, 0, 0, n));
        }
        for (int what : new int[] {-1, 5, MIN, MAX}) {
            bad(kind, "count(what)", x -> x.count(what));
        }
    }

    // ---- FULL, STATE, array faults, NONE

    private static void fullTapes() {
        for (int c : new int[] {0, ' ', ';', 127}) {
            refused(FULL_TAPE, "feed(" + c + ")", -3, x -> x.feed(c));
        }
        bad(FULL_TAPE, "feed(128), BAD before FULL", x -> x.feed(128));
    }

    private static void states() {
        for (int k = 0; k < 2; k++) {
            int image = k;
            refused(NEW, "back(k) of an empty image", -2, x -> x.back(image));
        }
        refused(SIXTEEN, "back(0) of an empty image", -2, x -> x.back(0));
        refused(SIXTEEN, "range(1,0,0), not reached", -2, x -> x.range(1, 0, 0));
        refused(SIXTEEN, "along(1,0,0,0), shut", -2, x -> x.along(1, 0, 0, 0));
        refused(SIXTEEN, "outcome(1), not reached", -2, x -> x.outcome(1));
        refused(SIXTEEN, "known(1,1), shut", -2, x -> x.known(1, 1));
    }

    private static void reasons() {
        refused(SIXTEEN, "thread(1,0), reason 1", -2, x -> x.thread(1, 0));
        refused(SIXTEEN, "thread(0,0), reason 2", -2, x -> x.thread(0, 0));
        refused(SIXTEEN, "thread(10,0), reason 6", -2, x -> x.thread(10, 0));
        refused(SIXTEEN, "threads(16) of no edge", 0, x -> x.threads(16));
        Kind head = new Kind("head", () -> Check.of("set b 1 go 1;read a if a<5 1 2;if b<5 2 2;"));
        refused(head, "thread(0,0), reason 3", -2, x -> x.thread(0, 0));
        refused(head, "thread(1,1), reason 4", -2, x -> x.thread(1, 1));
        Kind acts = new Kind("acts", () -> {
            KnownTurns x = Check.of("set a 1 go 1;write a if a<5 2 2;stop;");
            x.limit(0);
            return x;
        });
        refused(acts, "thread(0,0), reason 5", -2, x -> x.thread(0, 0));
    }

    private static void arrayFaults() {
        for (int i : new int[] {-1, 3, MIN, MAX}) {
            refused(BUSY, "lay(0,i,9)", -12, x -> x.lay(0, i, 9));
        }
        for (int i : new int[] {-1, 40, MIN, MAX}) {
            refused(BUSY, "lay(1,i,9)", -12, x -> x.lay(1, i, 9));
        }
        refused(BUSY, "lay(2,0,9) of no elements", -12, x -> x.lay(2, 0, 9));
        for (int i : new int[] {0, -1, 40, MIN, MAX}) {
            refused(BUSY, "lay(3,i,9) of a missing array", -11, x -> x.lay(3, i, 9));
            refused(NEW, "lay(0,i,9) of a missing array", -11, x -> x.lay(0, i, 9));
        }
    }

    /** "-20 minus i if element number i .. is not a value .. (no input is set then)". */
    private static void noValues() {
        refused(BUSY, "read(0,1,0,2)", -21, x -> x.read(0, 1, 0, 2));
        refused(BUSY, "read(0,1,0,8)", -21, x -> x.read(0, 1, 0, 8));
        refused(BUSY, "read(0,1,1,8)", -20, x -> x.read(0, 1, 1, 8));
        refused(SIXTEEN, "read(3,2,0,1)", -20, x -> x.read(3, 2, 0, 1));
    }

    private static void nothingThere() {
        refused(BUSY, "program(0,4)", -4, x -> x.program(0, 4));
        refused(BUSY, "block(0,3,3)", -4, x -> x.block(0, 3, 3));
        refused(BUSY, "act(0,0,1,0)", -4, x -> x.act(0, 0, 1, 0));
        refused(BUSY, "range(0,2,0)", -4, x -> x.range(0, 2, 0));
        refused(BUSY, "loop(0,1)", -4, x -> x.loop(0, 1));
        refused(BUSY, "wrote(0,MAX)", -4, x -> x.wrote(0, MAX));
        refused(BUSY, "path(0,60)", -4, x -> x.path(0, 60));
        refused(SIXTEEN, "count(3)", -4, x -> x.count(3));
        refused(SIXTEEN, "outcome(15)", -4, x -> x.outcome(15));
        refused(SIXTEEN, "known(15,0)", -4, x -> x.known(15, 0));
    }

    // ---- calls that are not refused

    /** A call that only tells something leaves everything; "the inputs of this object stay" with saved(). */
    private static void questions() {
        refused(BUSY, "program(1,7)", 1, x -> x.program(1, 7));
        refused(BUSY, "count(2)", 6, x -> x.count(2));
        refused(BUSY, "fault()", 1, KnownTurns::fault);
        refused(BUSY, "torn()", 3, KnownTurns::torn);
        refused(BUSY, "why(1,0)", 1, x -> x.why(1, 0));
        refused(BUSY, "ran(0,2)", 3, x -> x.ran(0, 2));
        refused(BUSY, "ran(1,9)", 2, x -> x.ran(1, 9));
        refused(BUSY, "wrote(1,0)", 4, x -> x.wrote(1, 0));
        refused(BUSY, "path(1,1)", 4, x -> x.path(1, 1));
        refused(SIXTEEN, "saved(MAX,10)", 40, x -> x.saved(MAX, 10));
        refused(BUSY, "input(7,50), as it was", 50, x -> x.input(7, 50));
        refused(BUSY, "limit(2), as it was", 2, x -> x.limit(2));
        refused(BUSY, "end(13), as it was", 13, x -> x.end(13));
        leaves(BUSY, "read(1,0,0,0), nothing is read", 0, Set.of("torn()"), x -> x.read(1, 0, 0, 0));
    }

    /** Promise 4: "The tape is empty then, also if there is a fault", "both programs and the images stay then". */
    private static void faultyTexts() {
        String[] faulty = {"stop?", "go", "set a 51 stop;", "read a read a read a read a read a stop;", "go 0;go 2;"};
        int[] due = {-14, -12, -16, -38, -20};
        int[] faults = {1, 2, 3, 5, 6};
        for (int i = 0; i < faulty.length; i++) {
            String text = faulty[i];
            ToIntFunction<KnownTurns> reading = x -> {
                x.end(0);
                Check.type(x, text);
                return x.text();
            };
            leaves(BUSY, "text() of " + text, due[i], Set.of("the tape", "fault()"), reading);
            KnownTurns x = busy();
            reading.applyAsInt(x);
            CHECK.due("fault() of " + text, x.fault(), faults[i]);
            CHECK.due("count(1) behind " + text, x.count(1), 0);
            CHECK.due("text() once more, of nothing", x.text(), 0);
        }
    }

    private static Set<String> all(List<Set<String>> sets) {
        Set<String> all = new TreeSet<>();
        sets.forEach(all::addAll);
        return all;
    }

    /** "After each successful call of text(), lead() or draw(), also if the original is the same as before, ..". */
    private static void newOriginals() {
        Set<String> programs = all(List.of(OF_CURRENT, OF_ORIGINAL, OF_IMAGES));
        leaves(BUSY, "lead(0,0,1), as it was", 1, all(List.of(OF_CURRENT, OF_IMAGES)), x -> x.lead(0, 0, 1));
        leaves(BUSY, "lead(0,0,3)", 1, programs, x -> x.lead(0, 0, 3));
        leaves(BUSY, "draw(7,5)", 4, programs, x -> x.draw(7, 5));
        Set<String> read = all(List.of(programs, OF_TAPE, Set.of("fault()")));
        leaves(BUSY, "text()", 1, read, KnownTurns::text);
        anew("lead(0,0,1)", x -> x.lead(0, 0, 1));
        anew("lead(2,0,4)", x -> x.lead(2, 0, 4));
        anew("draw(7,5)", x -> x.draw(7, 5));
        anew("text()", KnownTurns::text);
        anew("text() of nothing", x -> x.end(0) < 0 ? -9 : x.text());
    }

    private static void anew(String name, ToIntFunction<KnownTurns> call) {
        KnownTurns x = busy();
        CHECK.holds(name + " succeeds", call.applyAsInt(x) >= 0);
        CHECK.due("the images are empty behind " + name, x.count(0), 0);
        CHECK.due("image 0 is empty behind " + name, x.back(0), -2);
        CHECK.due("image 1 is empty behind " + name, x.back(1), -2);
        for (int what = 0; what < 4; what++) {
            CHECK.due("program(1," + what + ") behind " + name, x.program(1, what), x.program(0, what));
        }
        for (int b = 0; b < 9; b++) {
            for (int what = 0; what < 8; what++) {
                CHECK.due("block(1," + b + "," + what + ") behind " + name, x.block(1, b, what), x.block(0, b, what));
            }
            for (int what = 0; what < 12; what++) {
                CHECK.due("act(1," + b + ",..) behind " + name, x.act(1, b, what / 3, what % 3), x.act(0, b, what / 3, what % 3));
            }
        }
    }

    /** What changes one thing leaves the others. */
    private static void changes() {
        leaves(BUSY, "feed(0)", 14, OF_TAPE, x -> x.feed(0));
        leaves(BUSY, "end(5)", 13, OF_TAPE, x -> x.end(5));
        leaves(BUSY, "thread(0,1)", 5, OF_CURRENT, x -> x.thread(0, 1));
        leaves(BUSY, "threads(16)", 1, OF_CURRENT, x -> x.threads(16));
        leaves(SIXTEEN, "fold()", 0, Set.of(), KnownTurns::fold);
        leaves(SIXTEEN, "sweep()", 4, OF_CURRENT, KnownTurns::sweep);
        leaves(BUSY, "back(0)", 5, OF_CURRENT, x -> x.back(0));
        leaves(BUSY, "keep(0)", 1, Set.of("the blocks in image 0", "the acts in image 0"), x -> x.keep(0));
        leaves(BUSY, "keep(1)", 1, Set.of("the blocks in image 1", "the acts in image 1"), x -> x.keep(1));
        leaves(BUSY, "limit(0)", 2, Set.of("the limit", "the outcomes and reasons", "the blocks of program 1",
            "the blocks in image 0", "the blocks in image 1"), x -> x.limit(0));
        leaves(BUSY, "input(3,9)", 51, OF_INPUTS, x -> x.input(3, 9));
        leaves(BUSY, "read(1,0,32,8)", 8, all(List.of(OF_INPUTS, Set.of("torn()"))), x -> x.read(1, 0, 32, 8));
        leaves(BUSY, "lay(1,0,9)", 1, Set.of("array 1 as type 0"), x -> x.lay(1, 0, 9));
        leaves(BUSY, "sheet(3,0,40)", 1, Set.of("array 3 as type 0", "array 3 as type 1", "array 3 as type 2"),
            x -> x.sheet(3, 0, 40));
    }

    /** "All of the following is about the current program", as it is now: what was asked before a change does not matter. */
    private static void askedBefore() {
        String text = "read a if a<9 1 1;write a if a<9 2 3;if b<5 4 5;set b 3 if b<5 5 0;go 4;go 5;";
        askedThenChanged(text, "lead(1,0,0)", x -> x.lead(1, 0, 0));
        askedThenChanged(text, "lead(0,0,5)", x -> x.lead(0, 0, 5));
        askedThenChanged(text, "lead(5,0,3)", x -> x.lead(5, 0, 3));
        askedThenChanged(text, "draw(7,5)", x -> x.draw(7, 5));
        askedThenChanged(text, "draw(8,1)", x -> x.draw(8, 1));
        askedThenChanged(text, "thread(0,0)", x -> x.thread(0, 0));
        askedThenChanged(text, "threads(16)", x -> x.threads(16));
        askedThenChanged(text, "fold()", KnownTurns::fold);
        askedThenChanged("if a<5 1 2;go 0;stop;", "fold()", KnownTurns::fold);
        askedThenChanged("go 1;if a<5 2 1;if b<5 0 2;", "fold()", KnownTurns::fold);
        askedThenChanged("go 2;go 1;set a 3 go 2;", "sweep()", KnownTurns::sweep);
        askedThenChanged("go 2;stop;if a<5 0 3;go 2;", "sweep()", KnownTurns::sweep);
        askedThenChanged(text, "text() of nothing", KnownTurns::text);
        for (String other : new String[] {"stop;", "go 0;", "if a<5 0 0;", "go 1;if b=b 0 1;", "stop;go 0;", "set a 1 go 1;go 0;"}) {
            askedThenChanged(text, "text() of " + other, x -> {
                Check.type(x, other);
                return x.text();
            });
            askedThenChanged(other, "text()", x -> {
                Check.type(x, "if a<5 1 1;stop;");
                return x.text();
            });
        }
        askedThenChanged(text, "back(0)", x -> {
            x.keep(0);
            x.fold();
            x.program(1, 5);
            x.loop(0, 0);
            return x.back(0);
        });
    }

    private static void askedThenChanged(String text, String name, ToIntFunction<KnownTurns> change) {
        Map<String, String> fresh = Portrait.of(() -> changed(Check.of(text), change));
        Map<String, String> asked = Portrait.of(() -> {
            KnownTurns x = Check.of(text);
            x.range(0, 0, 0);
            x.dominates(0, 0);
            return changed(x, change);
        });
        for (String view : fresh.keySet()) {
            CHECK.holds(name + " behind questions, in " + text + ": " + view, asked.get(view).equals(fresh.get(view)));
        }
    }

    private static KnownTurns changed(KnownTurns x, ToIntFunction<KnownTurns> change) {
        CHECK.holds("the change succeeds", change.applyAsInt(x) >= 0);
        return x;
    }
}
