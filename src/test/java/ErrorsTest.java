/**
 * "If several errors apply, the one that the description of the result names first is returned. NONE is returned only
 * if no error applies."
 */
public final class ErrorsTest {
    private static final int MIN = Integer.MIN_VALUE, MAX = Integer.MAX_VALUE;
    private static final Check CHECK = new Check();

    public static void main(String[] args) {
        badBeforeFull();
        badBeforeNone();
        badBeforeState();
        stateBeforeNone();
        badBeforeArrayFaults();
        allWrong();
        CHECK.finish();
    }

    /** Block 1 is not reached and has a test, block 2 is not reached and has none; block 3 is a stop. */
    private static KnownTurns partly() {
        return Check.of("if a<5 1 3;if b<5 2 3;go 3;stop;");
    }

    /** Promise 2: "BAD if c is out of range; FULL if it has 200 bytes". */
    private static void badBeforeFull() {
        KnownTurns x = new KnownTurns();
        Check.type(x, " ".repeat(200));
        for (int c : new int[] {-1, 128, MIN, MAX}) {
            CHECK.due("feed(" + c + ")", x.feed(c), -1);
        }
        CHECK.due("feed(127)", x.feed(127), -3);
        CHECK.due("feed(0)", x.feed(0), -3);
    }

    /** Promises 6 to 8, 15, 23, 24: what there is none of, asked with an argument that is out of range. */
    private static void badBeforeNone() {
        KnownTurns x = partly();
        for (int wrong : new int[] {-1, 99, MIN, MAX}) {
            for (int what = 4; what <= 8; what++) {
                CHECK.due("program(p," + what + ")", x.program(wrong, what), -1);
            }
            CHECK.due("program(0,what)", x.program(0, wrong), -1);
            for (int what = 2; what <= 6; what++) {
                CHECK.due("block(0,3," + what + ")", x.block(0, 3, what), -4);
                CHECK.due("block(p,3," + what + ")", x.block(wrong, 3, what), -1);
                CHECK.due("block(0,b," + what + ")", x.block(0, wrong, what), -1);
            }
            CHECK.due("act(p,3,0,0)", x.act(wrong, 3, 0, 0), -1);
            CHECK.due("act(0,b,0,0)", x.act(0, wrong, 0, 0), -1);
            CHECK.due("act(0,3,0,what)", x.act(0, 3, 0, wrong), -1);
            CHECK.due("act(0,3,MAX,what)", x.act(0, 3, MAX, wrong), -1);
            CHECK.due("loop(b,1)", x.loop(wrong, 1), -1);
            CHECK.due("loop(0,what)", x.loop(0, wrong), -1);
            CHECK.due("wrote(p,MAX)", x.wrote(wrong, MAX), -1);
            CHECK.due("path(p,MAX)", x.path(wrong, MAX), -1);
        }
        CHECK.due("act(0,3,-1,0)", x.act(0, 3, -1, 0), -1);
        CHECK.due("act(0,3,0,0)", x.act(0, 3, 0, 0), -4);
        CHECK.due("act(0,3,0,3)", x.act(0, 3, 0, 3), -1);
        CHECK.due("loop(0,1)", x.loop(0, 1), -4);
        CHECK.due("wrote(0,MAX)", x.wrote(0, MAX), -4);
        CHECK.due("path(0,MAX)", x.path(0, MAX), -4);
    }

    /** Promises 9 to 12, 16, 29: "BAD ..; STATE ..". */
    private static void badBeforeState() {
        KnownTurns x = partly();
        for (int wrong : new int[] {-1, 4, MIN, MAX}) {
            CHECK.due("range(1,v,0), not reached", x.range(1, wrong, 0), -1);
            CHECK.due("range(1,0,what), not reached", x.range(1, 0, wrong), -1);
            CHECK.due("along(0,0,v,0), shut", x.along(0, 0, wrong, 0), -1);
            CHECK.due("along(0,0,0,what), shut", x.along(0, 0, 0, wrong), -1);
            CHECK.due("along(1,side,0,0), shut", x.along(1, wrong, 0, 0), -1);
            CHECK.due("known(1,side), shut", x.known(1, wrong), -1);
            CHECK.due("thread(1,side), shut", x.thread(1, wrong), -1);
            CHECK.due("why(1,side), shut", x.why(1, wrong), -1);
            CHECK.due("back(k), both are empty", x.back(wrong), -1);
        }
        CHECK.due("range(1,0,3)", x.range(1, 0, 3), -1);
        CHECK.due("range(1,0,2)", x.range(1, 0, 2), -2);
        CHECK.due("along(0,0,0,3)", x.along(0, 0, 0, 3), -1);
        CHECK.due("along(0,0,0,2)", x.along(0, 0, 0, 2), -2);
        CHECK.due("known(2,1), a go of a block that is not reached", x.known(2, 1), -1);
        CHECK.due("thread(2,1)", x.thread(2, 1), -1);
        CHECK.due("along(2,1,0,0)", x.along(2, 1, 0, 0), -1);
        CHECK.due("back(2)", x.back(2), -1);
        CHECK.due("back(1)", x.back(1), -2);
        KnownTurns full = ArgumentsTest.sixteen();
        CHECK.due("thread(15,1), 16 blocks", full.thread(15, 1), -1);
        CHECK.due("thread(16,0), 16 blocks", full.thread(16, 0), -1);
        CHECK.due("thread(15,0), 16 blocks", full.thread(15, 0), -2);
    }

    /** Promises 9 to 12: STATE where there is nothing to tell either. */
    private static void stateBeforeNone() {
        KnownTurns x = partly();
        CHECK.due("outcome(1), not reached, with a test", x.outcome(1), -2);
        CHECK.due("outcome(2), not reached, without a test", x.outcome(2), -2);
        CHECK.due("outcome(3), reached, without a test", x.outcome(3), -4);
        CHECK.due("known(0,0), shut, to a test", x.known(0, 0), -2);
        CHECK.due("known(1,0), shut, to no test", x.known(1, 0), -2);
        CHECK.due("known(2,0), shut, to no test", x.known(2, 0), -2);
        CHECK.due("known(0,1), open, to no test", x.known(0, 1), -4);
        CHECK.due("range(2,0,0), not reached", x.range(2, 0, 0), -2);
        CHECK.due("range(3,0,0), no number", x.range(3, 0, 0), -4);
        CHECK.due("range(3,0,1), no number", x.range(3, 0, 1), -4);
        CHECK.due("range(3,0,2)", x.range(3, 0, 2), 1);
        CHECK.due("along(0,0,3,0), shut", x.along(0, 0, 3, 0), -2);
        CHECK.due("along(0,1,3,0), no number", x.along(0, 1, 3, 0), -4);
        CHECK.due("along(0,1,3,1), no number", x.along(0, 1, 3, 1), -4);
        CHECK.due("along(0,1,3,2)", x.along(0, 1, 3, 2), 1);
    }

    /** Promises 30 to 32: BAD, then -14; BAD, then -11, then -12; BAD, then -20 minus i. */
    private static void badBeforeArrayFaults() {
        KnownTurns x = new KnownTurns();
        x.sheet(1, 0, 2);
        x.lay(1, 0, 99);
        for (int wrong : new int[] {-1, 4, MIN, MAX}) {
            CHECK.due("sheet(k,0,-1)", x.sheet(wrong, 0, -1), -1);
            CHECK.due("sheet(k,0,MIN)", x.sheet(wrong, 0, MIN), -1);
            CHECK.due("sheet(0,lane,-1)", x.sheet(0, wrong, -1), -1);
            CHECK.due("sheet(0,lane,MIN)", x.sheet(0, wrong, MIN), -1);
            CHECK.due("lay(k,-1,0)", x.lay(wrong, -1, 0), -1);
            CHECK.due("lay(0,i,0), missing", x.lay(0, wrong, 0), -11);
            CHECK.due("lay(1,i,0), there", x.lay(1, wrong, 0), -12);
            CHECK.due("read(k,0,0,1)", x.read(wrong, 0, 0, 1), -1);
            CHECK.due("read(k,0,0,0)", x.read(wrong, 0, 0, 0), -1);
            CHECK.due("read(1,lane,0,1), no value", x.read(1, wrong, 0, 1), -1);
            CHECK.due("read(1,lane,0,0)", x.read(1, wrong, 0, 0), -1);
            CHECK.due("read(0,lane,0,1), missing", x.read(0, wrong, 0, 1), -1);
        }
        for (int n : new int[] {-1, 9, MIN, MAX}) {
            CHECK.due("read(1,0,0," + n + "), no value", x.read(1, 0, 0, n), -1);
            CHECK.due("read(0,0,0," + n + "), missing", x.read(0, 0, 0, n), -1);
            CHECK.due("read(1,1,99," + n + "), another type", x.read(1, 1, 99, n), -1);
        }
        CHECK.due("sheet(0,3,-1)", x.sheet(0, 3, -1), -1);
        CHECK.due("sheet(0,2,-1)", x.sheet(0, 2, -1), -14);
        CHECK.due("read(1,0,0,1)", x.read(1, 0, 0, 1), -20);
    }

    /** Every argument out of its range at once. */
    private static void allWrong() {
        for (int wrong : new int[] {-1, 999, MIN, MAX}) {
            KnownTurns x = partly();
            int[] answers = {x.feed(wrong), x.end(wrong), x.program(wrong, wrong), x.block(wrong, wrong, wrong),
                x.act(wrong, wrong, wrong, wrong), x.range(wrong, wrong, wrong), x.along(wrong, wrong, wrong, wrong),
                x.outcome(wrong), x.known(wrong, wrong), x.why(wrong, wrong), x.dominates(wrong, wrong), x.loop(wrong, wrong),
                x.thread(wrong, wrong), x.threads(wrong), x.limit(wrong), x.input(wrong, wrong), x.ran(wrong, wrong),
                x.wrote(wrong, wrong), x.path(wrong, wrong), x.saved(wrong, wrong), x.lead(wrong, wrong, wrong),
                x.draw(wrong, wrong), x.keep(wrong), x.back(wrong), x.sheet(wrong, wrong, wrong), x.lay(wrong, wrong, wrong),
                x.read(wrong, wrong, wrong, wrong), x.count(wrong)};
            for (int i = 0; i < answers.length; i++) {
                CHECK.due("call " + i + " with " + wrong, answers[i], -1);
            }
            CHECK.due("program(0,0)", x.program(0, 0), 4);
            CHECK.due("program(1,0)", x.program(1, 0), 4);
        }
    }
}
