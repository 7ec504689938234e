import java.util.ArrayList;
import java.util.List;

/** RANGES, sentence by sentence: ranges that touch 0, 50, a test's number or each other, with nil, without it, and nil alone. */
public final class RangeBoundsTest {
    private static final Check CHECK = new Check();
    private static final Span NIL = new Span(51, -1, true);

    /** What a variable can be; no number, if the least one is above the greatest. */
    private record Span(int least, int greatest, boolean nil) {
        boolean none() {
            return least > greatest;
        }

        boolean impossible() {
            return none() && !nil;
        }

        Span within(int from, int to) {
            return new Span(Math.max(least, from), Math.min(greatest, to), nil);
        }

        Span notNil() {
            return new Span(least, greatest, false);
        }

        int property(int what) {
            return what == 2 ? nil ? 1 : 0 : none() ? -4 : what == 0 ? least : greatest;
        }

        /** The end of a block that reads v and leads to the next block with a part of this range, to block 7 otherwise. */
        String first(char v, int next) {
            int width = greatest - least;
            if (none()) {
                return " go " + next + ";";
            }
            if (nil) {
                return " read " + v + " if " + v + "<" + (50 - width) + " 7 " + next + ";";
            }
            String limit = width == 50 ? "=" + v : "<" + (width + 1);
            return " read " + v + " if " + v + limit + " " + next + " 7;";
        }

        /** The act that moves that part to where this range is. */
        String second(char v) {
            if (none()) {
                return " ";
            }
            return nil ? " sub " + v + " " + (50 - greatest) + " " : " add " + v + " " + least + " ";
        }
    }

    public static void main(String[] args) {
        firstRanges();
        acts();
        lessNumber();
        equalNumber();
        twoVariables();
        oneVariableTwice();
        countingUp();
        countingDown();
        joins();
        shutAndNotReached();
        outcomesAlong();
        CHECK.finish();
    }

    private static List<Span> spans(int... bounds) {
        List<Span> all = new ArrayList<>(List.of(NIL));
        for (int least : bounds) {
            for (int greatest : bounds) {
                if (least <= greatest) {
                    all.add(new Span(least, greatest, false));
                    all.add(new Span(least, greatest, true));
                }
            }
        }
        return all;
    }

    private static void before(KnownTurns x, String text, int b, int v, Span due) {
        for (int what = 0; what < 3; what++) {
            CHECK.due("range(" + b + "," + v + "," + what + ") of " + text, x.range(b, v, what), due.property(what));
        }
    }

    private static void edge(KnownTurns x, String text, int b, int side, int v, Span due, boolean open) {
        for (int what = 0; what < 3; what++) {
            CHECK.due("along(" + b + "," + side + "," + v + "," + what + ") of " + text, x.along(b, side, v, what),
                open ? due.property(what) : -2);
        }
    }

    /** The outcome of block b by which of its edges are open, and the same along the one edge to it. */
    private static void outcome(KnownTurns x, String text, int b, boolean first, boolean second) {
        int due = first && second ? 0 : first ? 1 : 2;
        CHECK.due("outcome(" + b + ") of " + text, x.outcome(b), due);
        if (x.block(1, b - 1, 2) == b) {
            CHECK.due("known(" + (b - 1) + ",0) of " + text, x.known(b - 1, 0), due);
        } else {
            CHECK.due("known(" + (b - 1) + ",1) of " + text, x.known(b - 1, 1), due);
        }
    }

    private static String stops(int blocks) {
        return "stop;".repeat(blocks);
    }

    /** "Before block 0 each variable can be nil." */
    private static void firstRanges() {
        for (String text : new String[] {"stop;", "go 0;", "if a<5 0 0;", "set a 5 set b 5 set c 5 set d 5 stop;"}) {
            KnownTurns x = Check.of(text);
            for (int v = 0; v < 4; v++) {
                before(x, text, 0, v, NIL);
            }
        }
    }

    /** "add, sub: the least and the greatest number are changed as the act changes them, nil as before"; "read: 0 to 50, and nil". */
    private static void acts() {
        for (Span span : spans(0, 1, 25, 49, 50)) {
            for (int n : new int[] {0, 1, 2, 24, 25, 26, 49, 50}) {
                boolean none = span.none();
                String start = span.first('b', 1) + span.second('b');
                String add = start + "add b " + n + " go 2;" + stops(6);
                edge(Check.of(add), add, 1, 0, 1, none ? span
                    : new Span(Math.min(50, span.least + n), Math.min(50, span.greatest + n), span.nil), true);
                String sub = start + "sub b " + n + " go 2;" + stops(6);
                edge(Check.of(sub), sub, 1, 0, 1, none ? span
                    : new Span(Math.max(0, span.least - n), Math.max(0, span.greatest - n), span.nil), true);
                String set = start + "set b " + n + " go 2;" + stops(6);
                edge(Check.of(set), set, 1, 0, 1, new Span(n, n, false), true);
            }
            String start = span.first('b', 1) + span.second('b');
            String move = start + "set d 9 move d b set b 3 go 2;" + stops(6);
            edge(Check.of(move), move, 1, 0, 3, span, true);
            String same = start + "move b b write b go 2;" + stops(6);
            edge(Check.of(same), same, 1, 0, 1, span, true);
            String read = start + "read b go 2;" + stops(6);
            edge(Check.of(read), read, 1, 0, 1, new Span(0, 50, true), true);
        }
    }

    private static void numberTest(Span span, String test, Span first, Span second) {
        String text = span.first('c', 1) + span.second('c') + test + " 2 3;" + stops(6);
        KnownTurns x = Check.of(text);
        edge(x, text, 1, 0, 2, first, !first.impossible());
        edge(x, text, 1, 1, 2, second, !second.impossible());
        outcome(x, text, 1, !first.impossible(), !second.impossible());
    }

    /** "less, x a number: side 0: only numbers of v below x, not nil; side 1: only numbers of v from x on, nil as before". */
    private static void lessNumber() {
        for (Span span : spans(0, 1, 2, 25, 48, 49, 50)) {
            for (int n = 0; n <= 50; n++) {
                numberTest(span, "if c<" + n, span.within(0, n - 1).notNil(), span.within(n, 50));
            }
        }
    }

    /** "equal, x a number: side 0: only x, if it is within the range of v, not nil; side 1: v without x, if x is its least or its greatest number". */
    private static void equalNumber() {
        for (Span span : spans(0, 1, 2, 25, 48, 49, 50)) {
            for (int n = 0; n <= 50; n++) {
                Span without = span;
                if (!span.none() && span.least == n) {
                    without = new Span(n + 1, span.greatest, span.nil);
                } else if (!span.none() && span.greatest == n) {
                    without = new Span(span.least, n - 1, span.nil);
                }
                numberTest(span, "if c=" + n, span.within(n, n).notNil(), without);
            }
        }
    }

    private static void variableTest(Span v, Span x, String sign, Span[] first, Span[] second) {
        String text = v.first('a', 1) + v.second('a') + x.first('b', 2) + x.second('b') + "if a" + sign + "b 3 4;" + stops(5);
        KnownTurns turns = Check.of(text);
        boolean firstOpen = !first[0].impossible() && !first[1].impossible();
        boolean secondOpen = !second[0].impossible() && !second[1].impossible();
        for (int i = 0; i < 2; i++) {
            edge(turns, text, 2, 0, i, first[i], firstOpen);
            edge(turns, text, 2, 1, i, second[i], secondOpen);
        }
        edge(turns, text, 2, 0, 2, NIL, firstOpen);
        edge(turns, text, 2, 1, 2, NIL, secondOpen);
        outcome(turns, text, 2, firstOpen, secondOpen);
    }

    /** "less, x a variable: .." and "equal, x a variable: ..", with ranges apart, touching, overlapping, and without numbers. */
    private static void twoVariables() {
        Span empty = new Span(51, -1, false);
        for (Span v : spans(0, 1, 24, 25, 49, 50)) {
            for (Span x : spans(0, 1, 25, 26, 50)) {
                boolean none = v.none() || x.none();
                Span[] unchanged = {v, x};
                Span[] nothing = {empty, empty};
                Span[] below = {v.within(0, x.greatest - 1).notNil(), x.within(v.least + 1, 50).notNil()};
                Span[] notBelow = {v.within(x.least, 50), x.within(0, v.greatest)};
                variableTest(v, x, "<", none ? nothing : below, v.nil || x.nil ? unchanged : notBelow);
                Span both = v.within(x.least, x.greatest).notNil();
                variableTest(v, x, "=", none ? nothing : new Span[] {both, both}, unchanged);
            }
        }
    }

    /** "If x is the variable v itself, both restrictions apply to it." */
    private static void oneVariableTwice() {
        for (Span span : spans(0, 1, 2, 3, 25, 47, 48, 49, 50)) {
            Span inner = span.none() ? span.notNil() : span.within(span.least + 1, span.greatest - 1).notNil();
            numberTest(span, "if c<c", inner, span);
            numberTest(span, "if c=c", span.notNil(), span);
        }
    }

    /** "The ranges are the smallest ones for which the following holds", on the way up to 50. */
    private static void countingUp() {
        for (int n = 0; n <= 50; n++) {
            String text = "set a 0 go 1;add a 1 if a<" + n + " 1 2;stop;";
            KnownTurns x = Check.of(text);
            int last = Math.max(0, n - 1);
            before(x, text, 1, 0, new Span(0, last, false));
            before(x, text, 2, 0, new Span(Math.max(1, n), Math.max(1, n), false));
            String endless = "set a " + n + " go 1;add a 1 go 1;";
            before(Check.of(endless), endless, 1, 0, new Span(n, 50, false));
            String still = "set a " + n + " go 1;add a 0 go 1;";
            before(Check.of(still), still, 1, 0, new Span(n, n, false));
        }
    }

    private static void countingDown() {
        for (int n = 0; n <= 50; n++) {
            String text = "set a 50 go 1;sub a 1 if a<" + n + " 2 1;stop;";
            KnownTurns x = Check.of(text);
            before(x, text, 1, 0, new Span(n, 50, false));
            if (n == 0) {
                CHECK.due("range(2,0,0) of " + text, x.range(2, 0, 0), -2);
            } else {
                before(x, text, 2, 0, new Span(n - 1, n - 1, false));
            }
            String endless = "set a " + n + " go 1;sub a 1 go 1;";
            before(Check.of(endless), endless, 1, 0, new Span(0, n, false));
        }
    }

    /** "the least number is the least one of all these edges, the greatest the greatest one, and it can be nil if it can along one of them". */
    private static void joins() {
        for (Span one : spans(0, 25, 50)) {
            for (Span other : spans(0, 24, 49)) {
                // Block 0 leads to 1 and to 3; 2 and 4 go to 5 with the one range and with the other.
                String text = "if a<b 1 1;" + one.first('c', 2) + one.second('c') + "go 5;"
                    + other.first('c', 4) + other.second('c') + "go 5;" + stops(3);
                String both = text.replace("if a<b 1 1;", "read d if d<9 1 3;");
                KnownTurns x = Check.of(both);
                Span due = new Span(Math.min(one.least, other.least), Math.max(one.greatest, other.greatest), one.nil || other.nil);
                before(x, both, 5, 2, due);
                // If block 3 is not reached, block 4 adds nothing.
                before(Check.of(text), text, 5, 2, one);
            }
        }
        // Nil alone adds no number, whatever acts and tests it went through.
        for (String act : new String[] {"add c 50", "add c 1", "sub c 50", "sub c 1", "move c b", "write c", "set c 3 move c b"}) {
            for (int n : new int[] {0, 1, 20, 49, 50}) {
                String text = "read d if d<9 1 2;" + act + " go 3;set c " + n + " go 3;stop;";
                before(Check.of(text), text, 3, 2, new Span(n, n, true));
            }
        }
        for (int n : new int[] {0, 1, 20, 49, 50}) {
            // Before block 2, c is 7 or nil; along its side 1 it is nil alone.
            for (String test : new String[] {"if c<8", "if c=7", "if c<50"}) {
                String text = "read d if d<9 1 2;set c 7 go 2;" + test + " 3 4;set c " + n + " go 4;stop;";
                before(Check.of(text), text, 2, 2, new Span(7, 7, true));
                before(Check.of(text), text, 4, 2, new Span(n, n, true));
            }
        }
        // What comes later to a block that was left already goes on from there: a number, nil, or both.
        String later = "set a 9 go 1;read d if d<9 2 3;stop;move a b set c 4 go 1;";
        before(Check.of(later), later, 2, 0, new Span(9, 9, true));
        before(Check.of(later), later, 3, 0, new Span(9, 9, true));
        before(Check.of(later), later, 2, 2, new Span(4, 4, true));
        String onlyNil = "set a 9 read d go 1;if d<9 2 3;stop;move a b go 1;";
        before(Check.of(onlyNil), onlyNil, 1, 0, new Span(9, 9, true));
        before(Check.of(onlyNil), onlyNil, 2, 0, new Span(9, 9, true));
        // "block 0 included": what comes back is joined with nil.
        String again = "read a if a<50 0 1;stop;";
        before(Check.of(again), again, 0, 0, new Span(0, 49, true));
        String set = "set a 50 go 0;";
        before(Check.of(set), set, 0, 0, new Span(50, 50, true));
    }

    /** "A block is reached if it is block 0 or an open edge leads to it; all edges of blocks that are not reached are shut." */
    private static void shutAndNotReached() {
        KnownTurns x = Check.of("if a=a 1 6;if b<5 2 2;go 3;set a 3 if a<5 4 4;go 5;stop;stop;");
        for (int b = 1; b < 6; b++) {
            for (int v = 0; v < 4; v++) {
                CHECK.due("range(" + b + ",..)", x.range(b, v, 2), -2);
            }
            CHECK.due("outcome(" + b + ")", x.outcome(b), -2);
            for (int side = 0; side < (b % 2 == 1 ? 2 : 1) && b < 5; side++) {
                CHECK.due("along(" + b + "," + side + ")", x.along(b, side, 0, 2), -2);
                CHECK.due("known(" + b + "," + side + ")", x.known(b, side), -2);
                CHECK.due("why(" + b + "," + side + ")", x.why(b, side), 1);
            }
        }
        CHECK.due("reached blocks", x.program(1, 4), 2);
        CHECK.due("open edges", x.program(1, 5), 1);
        CHECK.due("known outcomes", x.program(1, 8), 1);
        // Block 0 is reached though nothing leads to it.
        KnownTurns alone = Check.of("stop;go 1;");
        CHECK.due("reached blocks", alone.program(1, 4), 1);
        CHECK.due("open edges", alone.program(1, 5), 0);
        CHECK.due("range(0,0,2)", alone.range(0, 0, 2), 1);
        CHECK.due("range(1,0,2)", alone.range(1, 0, 2), -2);
        // A block that is not reached opens no edge, though each variable would be a number there.
        KnownTurns sets = Check.of("stop;set a 1 set b 1 set c 1 set d 1 go 2;stop;");
        CHECK.due("reached blocks", sets.program(1, 4), 1);
        CHECK.due("open edges", sets.program(1, 5), 0);
        CHECK.due("range(2,0,0)", sets.range(2, 0, 0), -2);
        CHECK.due("along(1,0,0,0)", sets.along(1, 0, 0, 0), -2);
        // The other variables shut no edge: each of them can be nil.
        KnownTurns nils = Check.of("set a 1 if a<2 1 1;stop;");
        CHECK.due("open edges", nils.program(1, 5), 1);
        CHECK.due("along(0,0,3,2)", nils.along(0, 0, 3, 2), 1);
    }

    /** "The outcome along an open edge to a block with a test is the same, if only the ranges along this edge were before that block." */
    private static void outcomesAlong() {
        for (int n = 0; n <= 50; n++) {
            // Along side 0, a is below 25, along side 1 it is 25 or more, or nil.
            KnownTurns x = Check.of("read a if a<25 1 1;if a<" + n + " 2 2;stop;");
            CHECK.due("known(0,0) of a<" + n, x.known(0, 0), n == 0 ? 2 : n < 25 ? 0 : 1);
            CHECK.due("known(0,1) of a<" + n, x.known(0, 1), n <= 25 ? 2 : 0);
            CHECK.due("outcome(1) of a<" + n, x.outcome(1), n == 0 ? 2 : 0);
            KnownTurns y = Check.of("read a if a<25 1 1;if a=" + n + " 2 2;stop;");
            CHECK.due("known(0,0) of a=" + n, y.known(0, 0), n < 25 ? 0 : 2);
            CHECK.due("known(0,1) of a=" + n, y.known(0, 1), n < 25 ? 2 : 0);
            CHECK.due("outcome(1) of a=" + n, y.outcome(1), 0);
        }
    }
}
