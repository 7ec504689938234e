/** Promises 30 to 34: sheet, lay, read, torn, count. */
public final class ArraysTest {
    private static final Check CHECK = new Check();

    public static void main(String[] args) {
        sheets();
        elements();
        narrowing();
        reading();
        readingFaults();
        noValues();
        wrongArguments();
        counts();
        CHECK.finish();
    }

    private static void sheets() {
        KnownTurns x = new KnownTurns();
        CHECK.due("sheet(-1,0,1)", x.sheet(-1, 0, 1), -1);
        CHECK.due("sheet(4,0,1)", x.sheet(4, 0, 1), -1);
        CHECK.due("sheet(0,-1,1)", x.sheet(0, -1, 1), -1);
        CHECK.due("sheet(0,3,1)", x.sheet(0, 3, 1), -1);
        CHECK.due("sheet(0,0,41)", x.sheet(0, 0, 41), -1);
        CHECK.due("sheet(0,0,MAX)", x.sheet(0, 0, Integer.MAX_VALUE), -1);
        CHECK.due("sheet(0,0,-1)", x.sheet(0, 0, -1), -14);
        CHECK.due("sheet(0,0,MIN)", x.sheet(0, 0, Integer.MIN_VALUE), -14);
        CHECK.due("BAD before -14", x.sheet(4, 0, -1), -1);
        CHECK.due("BAD before -14", x.sheet(0, 3, -1), -1);
        CHECK.due("still missing", x.count(3), -4);
        CHECK.due("sheet(0,0,40)", x.sheet(0, 0, 40), 1);
        CHECK.due("count(3)", x.count(3), 40);
        CHECK.due("sheet(0,1,-1)", x.sheet(0, 1, -1), -14);
        CHECK.due("the old one stays", x.count(3), 40);
        CHECK.due("sheet(0,2,0)", x.sheet(0, 2, 0), 1);
        CHECK.due("count(3)", x.count(3), 0);
        CHECK.due("sheet(3,2,5)", x.sheet(3, 2, 5), 1);
        CHECK.due("count(3) is about array 0", x.count(3), 0);
    }

    private static void elements() {
        KnownTurns x = new KnownTurns();
        CHECK.due("lay(4,0,0)", x.lay(4, 0, 0), -1);
        CHECK.due("lay(-1,0,0)", x.lay(-1, 0, 0), -1);
        CHECK.due("lay(2,99,0)", x.lay(2, 99, 0), -11);
        x.sheet(2, 0, 3);
        CHECK.due("lay(2,3,0)", x.lay(2, 3, 0), -12);
        CHECK.due("lay(2,-1,0)", x.lay(2, -1, 0), -12);
        CHECK.due("lay(2,MAX,0)", x.lay(2, Integer.MAX_VALUE, 0), -12);
        CHECK.due("lay(2,2,9)", x.lay(2, 2, 9), 1);
        CHECK.due("lay(2,0,8)", x.lay(2, 0, 8), 1);
        CHECK.due("read(2,0,0,3)", x.read(2, 0, 0, 3), 3);
        CHECK.due("input 0", x.input(0, 51), 8);
        CHECK.due("input 1", x.input(1, 51), 0);
        CHECK.due("input 2", x.input(2, 51), 9);
        x.sheet(2, 0, 3);
        CHECK.due("a new array holds 0", x.read(2, 0, 2, 1), 1);
        CHECK.due("input 0", x.input(0, 51), 0);
        CHECK.due("a new array holds 0", x.read(2, 0, 0, 1), 1);
        CHECK.due("input 0", x.input(0, 51), 0);
        x.sheet(2, 0, 1);
        CHECK.due("a shorter array", x.lay(2, 1, 5), -12);
        x.sheet(2, 0, 0);
        CHECK.due("an array without elements", x.lay(2, 0, 5), -12);
    }

    private static void laid(int lane, int v, int due) {
        KnownTurns x = new KnownTurns();
        x.sheet(1, lane, 1);
        CHECK.due("lay(1,0," + v + ")", x.lay(1, 0, v), 1);
        CHECK.due("read of " + v + " in lane " + lane, x.read(1, lane, 0, 1), due < 0 ? due : 1);
        CHECK.due("input 0", x.input(0, 51), due < 0 ? 51 : due);
    }

    private static void narrowing() {
        laid(0, 256 + 7, 7);
        laid(1, 256 + 7, -20);
        laid(0, 128, -20);
        laid(0, -256, 0);
        laid(0, 65536 * 3 + 50, 50);
        laid(1, 65536 * 3 + 50, 50);
        laid(2, 65536 * 3 + 50, -20);
        laid(1, -65536 + 51, 51);
        laid(1, 32768, -20);
        laid(2, Integer.MIN_VALUE, -20);
        laid(1, Integer.MIN_VALUE, 0);
        laid(0, Integer.MAX_VALUE, -20);
        laid(2, 51, 51);
        laid(2, 52, -20);
        laid(0, -1, -20);
        laid(2, -1, -20);
    }

    private static KnownTurns filled() {
        KnownTurns x = new KnownTurns();
        x.sheet(3, 1, 10);
        for (int i = 0; i < 10; i++) {
            x.lay(3, i, 20 + i);
        }
        return x;
    }

    private static void inputsAre(KnownTurns x, int... due) {
        for (int i = 0; i < due.length; i++) {
            CHECK.due("input " + i, x.input(i, 51), due[i]);
        }
    }

    private static void reading() {
        KnownTurns x = filled();
        CHECK.due("read(3,1,0,8)", x.read(3, 1, 0, 8), 8);
        CHECK.due("torn()", x.torn(), 0);
        inputsAre(x, 20, 21, 22, 23, 24, 25, 26, 27);
        CHECK.due("read(3,1,7,2)", x.read(3, 1, 7, 2), 2);
        inputsAre(x, 27, 28, 51, 51, 51, 51, 51, 51);
        x.input(0, 5);
        CHECK.due("read(3,1,0,0)", x.read(3, 1, 0, 0), 0);
        CHECK.due("torn()", x.torn(), 0);
        inputsAre(x, 5);
    }

    private static void readingFaults() {
        KnownTurns x = filled();
        CHECK.due("past the end", x.read(3, 1, 8, 5), 2);
        CHECK.due("torn()", x.torn(), 2);
        inputsAre(x, 28, 29, 51);
        CHECK.due("read(3,1,0,1)", x.read(3, 1, 0, 1), 1);
        CHECK.due("torn()", x.torn(), 0);
        CHECK.due("before the start", x.read(3, 1, -1, 5), 0);
        CHECK.due("torn()", x.torn(), 2);
        CHECK.due("far away", x.read(3, 1, Integer.MAX_VALUE, 8), 0);
        CHECK.due("far away", x.read(3, 1, Integer.MIN_VALUE, 8), 0);
        CHECK.due("another type", x.read(3, 2, 99, 1), 0);
        CHECK.due("torn() names the type before the index", x.torn(), 3);
        CHECK.due("missing", x.read(0, 1, 99, 1), 0);
        CHECK.due("torn()", x.torn(), 1);
        CHECK.due("nothing to read of a missing one", x.read(0, 1, 99, 0), 0);
        CHECK.due("torn()", x.torn(), 0);
        CHECK.due("nothing to read of another type", x.read(3, 2, 99, 0), 0);
        CHECK.due("torn()", x.torn(), 0);
        inputsAre(x, 20);
    }

    private static void noValues() {
        KnownTurns x = filled();
        x.lay(3, 9, 52);
        x.read(0, 0, 0, 1);
        CHECK.due("element 9 is no value", x.read(3, 1, 6, 4), -23);
        CHECK.due("torn() stays", x.torn(), 1);
        inputsAre(x, 51, 51, 51, 51);
        CHECK.due("it is met before the fault", x.read(3, 1, 9, 2), -20);
        CHECK.due("it is not read", x.read(3, 1, 6, 3), 3);
        CHECK.due("torn()", x.torn(), 0);
        CHECK.due("the type is met before it", x.read(3, 0, 9, 1), 0);
        CHECK.due("torn()", x.torn(), 3);
        x.lay(3, 2, -1);
        CHECK.due("the last of eight", x.read(3, 1, 2, 8), -20);
        x.lay(3, 2, 0);
        CHECK.due("the last of eight", x.read(3, 1, 2, 8), -27);
    }

    private static void wrongArguments() {
        KnownTurns x = filled();
        x.read(0, 0, 0, 1);
        CHECK.due("read(4,1,0,1)", x.read(4, 1, 0, 1), -1);
        CHECK.due("read(-1,1,0,1)", x.read(-1, 1, 0, 1), -1);
        CHECK.due("read(3,3,0,1)", x.read(3, 3, 0, 1), -1);
        CHECK.due("read(3,-1,0,1)", x.read(3, -1, 0, 1), -1);
        CHECK.due("read(3,1,0,9)", x.read(3, 1, 0, 9), -1);
        CHECK.due("read(3,1,0,-1)", x.read(3, 1, 0, -1), -1);
        CHECK.due("read(3,3,0,0)", x.read(3, 3, 0, 0), -1);
        CHECK.due("torn() stays", x.torn(), 1);
    }

    private static void counts() {
        KnownTurns x = new KnownTurns();
        CHECK.due("count(-1)", x.count(-1), -1);
        CHECK.due("count(5)", x.count(5), -1);
        x.keep(1);
        x.feed(32);
        x.input(4, 0);
        x.sheet(0, 2, 7);
        x.limit(1);
        int[] due = {1, 1, 7, 7, 1};
        for (int what = 0; what < 5; what++) {
            CHECK.due("count(" + what + ")", x.count(what), due[what]);
        }
        x.keep(0);
        CHECK.due("count(0)", x.count(0), 2);
        // Making a new program empties the images alone.
        Check.type(x, "stop;");
        x.end(6);
        CHECK.due("text()", x.text(), 1);
        int[] then = {0, 0, 7, 7, 1};
        for (int what = 0; what < 5; what++) {
            CHECK.due("count(" + what + ") behind text()", x.count(what), then[what]);
        }
    }
}
