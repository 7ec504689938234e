/** Promises 9 to 13: range, along, outcome, known, why. */
public final class RangesTest {
    private static final Check CHECK = new Check();
    private static final String STOPS = "stop;stop;";
    // Before block 2, a is 5 to 9 and b is 7 to 20, and neither is nil.
    private static final String BOUNDED = "read a if a<5 1 4;add a 5 read b if b<14 2 4;";

    public static void main(String[] args) {
        acts();
        joins();
        fixedPoints();
        lessNumber();
        lessVariable();
        equalNumber();
        equalVariable();
        sameVariable();
        shutAndUnreached();
        outcomes();
        outcomesAlong();
        reasons();
        wrongArguments();
        CHECK.finish();
    }

    private static void before(KnownTurns x, int b, int v, int least, int greatest, int nil) {
        String call = "range(" + b + "," + v + ",";
        CHECK.due(call + "0)", x.range(b, v, 0), least);
        CHECK.due(call + "1)", x.range(b, v, 1), greatest);
        CHECK.due(call + "2)", x.range(b, v, 2), nil);
    }

    private static void edge(KnownTurns x, int b, int side, int v, int least, int greatest, int nil) {
        String call = "along(" + b + "," + side + "," + v + ",";
        CHECK.due(call + "0)", x.along(b, side, v, 0), least);
        CHECK.due(call + "1)", x.along(b, side, v, 1), greatest);
        CHECK.due(call + "2)", x.along(b, side, v, 2), nil);
    }

    private static void shut(KnownTurns x, int b, int side) {
        CHECK.due("along(" + b + "," + side + ",3,2)", x.along(b, side, 3, 2), -2);
        CHECK.due("known(" + b + "," + side + ")", x.known(b, side), -2);
        CHECK.due("why(" + b + "," + side + ")", x.why(b, side), 1);
    }

    private static void acts() {
        KnownTurns x = Check.of("set a 7 read b move c b go 1;add a 3 sub b 45 add c 45 go 2;sub a 9 add d 5 write a go 3;"
            + "add a 50 sub a 20 move d a move a b go 4;stop;");
        before(x, 0, 0, -4, -4, 1);
        before(x, 1, 0, 7, 7, 0);
        before(x, 1, 1, 0, 50, 1);
        before(x, 1, 2, 0, 50, 1);
        before(x, 1, 3, -4, -4, 1);
        before(x, 2, 0, 10, 10, 0);
        before(x, 2, 1, 0, 5, 1);
        before(x, 2, 2, 45, 50, 1);
        before(x, 3, 0, 1, 1, 0);
        before(x, 3, 3, -4, -4, 1);
        before(x, 4, 3, 30, 30, 0);
        before(Check.of("set a 3 read a go 1;stop;"), 1, 0, 0, 50, 1);
        before(x, 4, 0, 0, 5, 1);
        edge(x, 3, 0, 3, 30, 30, 0);
    }

    private static void joins() {
        KnownTurns x = Check.of("read a if a<5 1 2;set b 3 set c 9 go 3;set b 40 go 3;stop;");
        before(x, 3, 1, 3, 40, 0);
        before(x, 3, 2, 9, 9, 1);
        before(x, 3, 0, 0, 50, 1);
        // Along the edge from block 2 to block 4, a is nil alone, which adds no number.
        KnownTurns nil = Check.of("read b if b<25 1 2;set a 3 go 2;if a<5 3 4;set a 10 go 4;stop;");
        before(nil, 2, 0, 3, 3, 1);
        edge(nil, 2, 1, 0, -4, -4, 1);
        before(nil, 4, 0, 10, 10, 1);
        KnownTurns equalNil = Check.of("read b if b<25 1 2;set a 30 go 2;if a=30 3 4;set a 10 go 4;stop;");
        edge(equalNil, 2, 1, 0, -4, -4, 1);
        before(equalNil, 4, 0, 10, 10, 1);
        // Nil alone is news too, when it reaches a block that has been left already.
        KnownTurns late = Check.of("set a 3 go 1;read b if b<9 2 3;stop;move a c go 1;");
        before(late, 1, 0, 3, 3, 1);
        before(late, 2, 0, 3, 3, 1);
        // Block 0 can be entered again: nil at first is joined with what comes back.
        KnownTurns again = Check.of("read a if a<5 0 1;stop;");
        before(again, 0, 0, 0, 4, 1);
        before(again, 1, 0, 5, 50, 1);
    }

    private static void fixedPoints() {
        KnownTurns count = Check.of("set a 0 go 1;add a 1 if a<9 1 2;stop;");
        before(count, 1, 0, 0, 8, 0);
        before(count, 2, 0, 9, 9, 0);
        KnownTurns endless = Check.of("set a 0 go 1;add a 1 go 1;");
        before(endless, 1, 0, 0, 50, 0);
        edge(endless, 1, 0, 0, 1, 50, 0);
        KnownTurns down = Check.of("set a 50 go 1;sub a 1 if a<10 2 1;stop;");
        before(down, 1, 0, 10, 50, 0);
        before(down, 2, 0, 9, 9, 0);
        KnownTurns steps = Check.of("set a 0 go 1;add a 4 if a<30 1 2;stop;");
        before(steps, 1, 0, 0, 29, 0);
        before(steps, 2, 0, 30, 33, 0);
        KnownTurns two = Check.of("set a 0 set b 0 go 1;add a 1 if a<50 1 2;set a 0 add b 1 if b<50 1 3;stop;");
        before(two, 1, 0, 0, 49, 0);
        before(two, 1, 1, 0, 49, 0);
        before(two, 2, 1, 0, 49, 0);
        before(two, 3, 1, 50, 50, 0);
    }

    private static void lessNumber() {
        KnownTurns x = Check.of("read a if a<5 1 2;" + STOPS);
        edge(x, 0, 0, 0, 0, 4, 0);
        edge(x, 0, 1, 0, 5, 50, 1);
        edge(x, 0, 0, 1, -4, -4, 1);
        KnownTurns zero = Check.of("read a if a<0 1 2;" + STOPS);
        shut(zero, 0, 0);
        edge(zero, 0, 1, 0, 0, 50, 1);
        KnownTurns top = Check.of("read a if a<50 1 2;" + STOPS);
        edge(top, 0, 0, 0, 0, 49, 0);
        edge(top, 0, 1, 0, 50, 50, 1);
        KnownTurns onlyNil = Check.of("read a if a<50 1 2;stop;if a<50 3 4;" + STOPS);
        edge(onlyNil, 2, 1, 0, 50, 50, 1);
        shut(onlyNil, 2, 0);
        KnownTurns below = Check.of("set a 4 if a<5 1 2;" + STOPS);
        edge(below, 0, 0, 0, 4, 4, 0);
        shut(below, 0, 1);
    }

    private static void lessVariable() {
        KnownTurns nils = Check.of("read a read b if a<b 1 2;" + STOPS);
        edge(nils, 0, 0, 0, 0, 49, 0);
        edge(nils, 0, 0, 1, 1, 50, 0);
        edge(nils, 0, 1, 0, 0, 50, 1);
        edge(nils, 0, 1, 1, 0, 50, 1);
        KnownTurns x = Check.of(BOUNDED + "add b 7 if a<b 3 4;stop;stop;");
        edge(x, 2, 0, 0, 5, 9, 0);
        edge(x, 2, 0, 1, 7, 20, 0);
        edge(x, 2, 1, 0, 7, 9, 0);
        edge(x, 2, 1, 1, 7, 9, 0);
        KnownTurns turned = Check.of(BOUNDED + "add b 7 if b<a 3 4;stop;stop;");
        edge(turned, 2, 0, 0, 8, 9, 0);
        edge(turned, 2, 0, 1, 7, 8, 0);
        edge(turned, 2, 1, 0, 5, 9, 0);
        edge(turned, 2, 1, 1, 7, 20, 0);
        // If only one of them can be nil, side 1 tells nothing.
        KnownTurns oneNil = Check.of("set a 30 read b if a<b 1 2;" + STOPS);
        edge(oneNil, 0, 0, 1, 31, 50, 0);
        edge(oneNil, 0, 1, 1, 0, 50, 1);
        edge(oneNil, 0, 1, 0, 30, 30, 0);
        KnownTurns otherNil = Check.of("set b 30 read a if a<b 1 2;" + STOPS);
        edge(otherNil, 0, 0, 0, 0, 29, 0);
        edge(otherNil, 0, 1, 0, 0, 50, 1);
        KnownTurns none = Check.of("read a if a<b 1 2;" + STOPS);
        shut(none, 0, 0);
        edge(none, 0, 1, 0, 0, 50, 1);
        KnownTurns never = Check.of("set a 9 set b 9 if a<b 1 2;" + STOPS);
        shut(never, 0, 0);
        KnownTurns always = Check.of("set a 9 set b 10 if a<b 1 2;" + STOPS);
        shut(always, 0, 1);
        edge(always, 0, 0, 0, 9, 9, 0);
        edge(always, 0, 0, 1, 10, 10, 0);
    }

    private static void equalNumber() {
        int[][] rows = {{5, 5, 5, 6, 9}, {9, 9, 9, 5, 8}, {7, 7, 7, 5, 9}};
        for (int[] row : rows) {
            KnownTurns x = Check.of("read a if a<5 1 2;add a 5 if a=" + row[0] + " 2 3;stop;stop;");
            edge(x, 1, 0, 0, row[1], row[2], 0);
            edge(x, 1, 1, 0, row[3], row[4], 0);
        }
        KnownTurns low = Check.of("set a 0 sub a 3 read b move a a if a=0 1 2;" + STOPS);
        edge(low, 0, 0, 0, 0, 0, 0);
        shut(low, 0, 1);
        KnownTurns outside = Check.of("read a if a<5 1 2;add a 5 if a=4 2 3;stop;stop;");
        shut(outside, 1, 0);
        edge(outside, 1, 1, 0, 5, 9, 0);
        KnownTurns nil = Check.of("read a if a=0 1 2;" + STOPS);
        edge(nil, 0, 0, 0, 0, 0, 0);
        edge(nil, 0, 1, 0, 1, 50, 1);
        KnownTurns nilTop = Check.of("read a if a=50 1 2;" + STOPS);
        edge(nilTop, 0, 1, 0, 0, 49, 1);
        KnownTurns exact = Check.of("set a 8 if a=8 1 2;" + STOPS);
        edge(exact, 0, 0, 0, 8, 8, 0);
        shut(exact, 0, 1);
        KnownTurns leftNil = Check.of("read a if a<50 1 2;stop;if a=50 3 4;" + STOPS);
        edge(leftNil, 2, 0, 0, 50, 50, 0);
        edge(leftNil, 2, 1, 0, -4, -4, 1);
    }

    private static void equalVariable() {
        KnownTurns x = Check.of(BOUNDED + "add b 7 if a=b 3 4;stop;stop;");
        edge(x, 2, 0, 0, 7, 9, 0);
        edge(x, 2, 0, 1, 7, 9, 0);
        edge(x, 2, 1, 0, 5, 9, 0);
        edge(x, 2, 1, 1, 7, 20, 0);
        KnownTurns nils = Check.of("read a set b 7 if a=b 1 2;" + STOPS);
        edge(nils, 0, 0, 0, 7, 7, 0);
        edge(nils, 0, 1, 0, 0, 50, 1);
        KnownTurns both = Check.of("read a read b if a=b 1 2;" + STOPS);
        edge(both, 0, 0, 0, 0, 50, 0);
        edge(both, 0, 0, 1, 0, 50, 0);
        edge(both, 0, 1, 1, 0, 50, 1);
        KnownTurns apart = Check.of("set a 7 set b 8 if a=b 1 2;" + STOPS);
        shut(apart, 0, 0);
        KnownTurns same = Check.of("set a 7 set b 7 if a=b 1 2;" + STOPS);
        edge(same, 0, 0, 0, 7, 7, 0);
        edge(same, 0, 1, 0, 7, 7, 0);
        KnownTurns none = Check.of("read a if a=b 1 2;" + STOPS);
        shut(none, 0, 0);
        edge(none, 0, 1, 0, 0, 50, 1);
    }

    private static void sameVariable() {
        KnownTurns less = Check.of("read a if a<5 1 2;add a 5 if a<a 2 3;stop;stop;");
        edge(less, 1, 0, 0, 6, 8, 0);
        edge(less, 1, 1, 0, 5, 9, 0);
        KnownTurns nil = Check.of("read a if a<a 1 2;" + STOPS);
        edge(nil, 0, 0, 0, 1, 49, 0);
        edge(nil, 0, 1, 0, 0, 50, 1);
        KnownTurns exact = Check.of("set a 5 if a<a 1 2;" + STOPS);
        shut(exact, 0, 0);
        KnownTurns pair = Check.of("read a if a<2 1 2;if a<a 2 3;stop;stop;");
        shut(pair, 1, 0);
        edge(pair, 1, 1, 0, 0, 1, 0);
        KnownTurns equal = Check.of("read a if a=a 1 2;" + STOPS);
        edge(equal, 0, 0, 0, 0, 50, 0);
        edge(equal, 0, 1, 0, 0, 50, 1);
        KnownTurns equalNil = Check.of("if a=a 1 2;" + STOPS);
        shut(equalNil, 0, 0);
        CHECK.due("outcome(0)", equalNil.outcome(0), 2);
    }

    private static void shutAndUnreached() {
        KnownTurns x = Check.of("if a<5 1 2;go 2;stop;if b<5 3 2;");
        shut(x, 0, 0);
        shut(x, 1, 0);
        shut(x, 3, 0);
        shut(x, 3, 1);
        for (int b = 1; b < 4; b += 2) {
            CHECK.due("range of an unreached block", x.range(b, 0, 0), -2);
            CHECK.due("range of an unreached block", x.range(b, 3, 2), -2);
            CHECK.due("outcome of an unreached block", x.outcome(b), -2);
        }
        before(x, 2, 0, -4, -4, 1);
        CHECK.due("reached blocks", x.program(1, 4), 2);
        CHECK.due("open edges", x.program(1, 5), 1);
        CHECK.due("known outcomes", x.program(1, 8), 1);
    }

    private static void outcomes() {
        CHECK.due("both", Check.of("read a if a<5 1 2;" + STOPS).outcome(0), 0);
        CHECK.due("side 0", Check.of("set a 4 if a<5 1 2;" + STOPS).outcome(0), 1);
        CHECK.due("side 1", Check.of("set a 5 if a<5 1 2;" + STOPS).outcome(0), 2);
        CHECK.due("nil", Check.of("if a<5 1 2;" + STOPS).outcome(0), 2);
        CHECK.due("both edges to one block", Check.of("read a if a<5 1 1;stop;").outcome(0), 0);
        CHECK.due("go", Check.of("go 0;").outcome(0), -4);
        CHECK.due("stop", Check.of("stop;").outcome(0), -4);
        CHECK.due("no block", new KnownTurns().outcome(0), -1);
    }

    private static void outcomesAlong() {
        KnownTurns x = Check.of("read a if a<5 1 1;if a<9 2 3;if a<5 3 4;if a=20 4 4;stop;");
        CHECK.due("known(0,0)", x.known(0, 0), 1);
        CHECK.due("known(0,1)", x.known(0, 1), 0);
        CHECK.due("known(1,0)", x.known(1, 0), 0);
        CHECK.due("known(1,1)", x.known(1, 1), 0);
        CHECK.due("known(2,0)", x.known(2, 0), 2);
        CHECK.due("known(2,1)", x.known(2, 1), -4);
        CHECK.due("outcome(1)", x.outcome(1), 0);
        // The acts of the block to which the edge leads come before its test.
        KnownTurns acts = Check.of("read a if a<5 1 2;add a 5 if a<5 2 2;read a if a<9 3 3;stop;");
        CHECK.due("known behind an add", acts.known(0, 0), 2);
        CHECK.due("known behind a read", acts.known(0, 1), 0);
    }

    private static void reasons() {
        KnownTurns x = Check.of("read a if a<5 1 2;write a write a if a<9 3 3;if a<20 3 4;stop;if a=3 0 4;");
        CHECK.due("none", x.why(0, 0), 0);
        CHECK.due("3: the outcome is 0", x.why(0, 1), 3);
        CHECK.due("2: no test", x.why(1, 0), 2);
        CHECK.due("1: shut", x.why(1, 1), 1);
        CHECK.due("4: a head", x.why(4, 1), 4);
        CHECK.due("1 before 4: shut", x.why(4, 0), 1);
        x.limit(1);
        CHECK.due("5: too many acts", x.why(0, 0), 5);
        x.limit(2);
        CHECK.due("as many acts as the limit", x.why(0, 0), 0);
        KnownTurns head = Check.of("read a if a<5 1 1;write a if a<9 1 2;stop;");
        head.limit(0);
        CHECK.due("4 before 5", head.why(0, 0), 4);
        CHECK.due("3 before 4", head.why(0, 1), 3);
    }

    private static void wrongArguments() {
        KnownTurns x = Check.of("read a if a<5 1 1;go 2;stop;stop;");
        int[][] edges = {{-1, 0}, {4, 0}, {0, -1}, {0, 2}, {1, 1}, {2, 0}, {3, 0}, {Integer.MAX_VALUE, 0}, {0, Integer.MIN_VALUE}};
        for (int[] e : edges) {
            CHECK.due("along of no edge", x.along(e[0], e[1], 0, 0), -1);
            CHECK.due("known of no edge", x.known(e[0], e[1]), -1);
            CHECK.due("why of no edge", x.why(e[0], e[1]), -1);
            CHECK.due("thread of no edge", x.thread(e[0], e[1]), -1);
        }
        CHECK.due("along(0,0,4,0)", x.along(0, 0, 4, 0), -1);
        CHECK.due("along(0,0,-1,0)", x.along(0, 0, -1, 0), -1);
        CHECK.due("along(0,0,0,3)", x.along(0, 0, 0, 3), -1);
        CHECK.due("along(0,0,0,-1)", x.along(0, 0, 0, -1), -1);
        CHECK.due("range(4,0,0)", x.range(4, 0, 0), -1);
        CHECK.due("range(-1,0,0)", x.range(-1, 0, 0), -1);
        CHECK.due("range(0,4,0)", x.range(0, 4, 0), -1);
        CHECK.due("range(0,-1,0)", x.range(0, -1, 0), -1);
        CHECK.due("range(0,0,3)", x.range(0, 0, 3), -1);
        CHECK.due("range(0,0,-1)", x.range(0, 0, -1), -1);
        CHECK.due("BAD before STATE", x.range(3, 4, 0), -1);
        CHECK.due("BAD before STATE", x.range(3, 0, 3), -1);
        CHECK.due("outcome(4)", x.outcome(4), -1);
        CHECK.due("outcome(-1)", x.outcome(-1), -1);
        CHECK.due("STATE before NONE", x.outcome(3), -2);
    }
}
