/** ARRAYS and promises 30 to 34, sentence by sentence, at their bounds. */
public final class ArrayBoundsTest {
    private static final int MIN = Integer.MIN_VALUE, MAX = Integer.MAX_VALUE;
    private static final Check CHECK = new Check();

    public static void main(String[] args) {
        missingAtFirst();
        sizes();
        newElements();
        inPlace();
        narrowing();
        values();
        windows();
        untouchedInputs();
        nothingToRead();
        firstFaultOfTorn();
        latestFault();
        faultBeforeNoValue();
        noValueOfEach();
        images();
        tapeAndInputs();
        CHECK.finish();
    }

    /** "An array is missing (as at first)". */
    private static void missingAtFirst() {
        for (int k = 0; k < 4; k++) {
            KnownTurns x = new KnownTurns();
            CHECK.due("lay(" + k + ",0,0)", x.lay(k, 0, 0), -11);
            for (int lane = 0; lane < 3; lane++) {
                CHECK.due("read(" + k + "," + lane + ",0,1)", x.read(k, lane, 0, 1), 0);
                CHECK.due("torn()", x.torn(), 1);
            }
            CHECK.due("sheet(" + k + ",0,1)", x.sheet(k, 0, 1), 1);
            for (int other = 0; other < 4; other++) {
                CHECK.due("lay(" + other + ",0,0)", x.lay(other, 0, 0), other == k ? 1 : -11);
            }
            CHECK.due("count(3)", x.count(3), k == 0 ? 1 : -4);
        }
    }

    /** "with 0 to 40 elements"; count(3) is "the number of elements of array 0". */
    private static void sizes() {
        for (int n = 0; n <= 40; n++) {
            KnownTurns x = new KnownTurns();
            CHECK.due("sheet(0,1," + n + ")", x.sheet(0, 1, n), 1);
            CHECK.due("count(3)", x.count(3), n);
            CHECK.due("lay of the last one", x.lay(0, n - 1, 5), n == 0 ? -12 : 1);
            CHECK.due("lay of one behind it", x.lay(0, n, 5), -12);
            CHECK.due("read of the last one", x.read(0, 1, n - 1, 1), n == 0 ? 0 : 1);
            CHECK.due("torn()", x.torn(), n == 0 ? 2 : 0);
            CHECK.due("read of one behind it", x.read(0, 1, n, 1), 0);
            CHECK.due("torn()", x.torn(), 2);
        }
    }

    /** "Creates an array with all elements 0, in place of what is there." */
    private static void newElements() {
        for (int lane = 0; lane < 3; lane++) {
            KnownTurns x = new KnownTurns();
            for (int again = 0; again < 2; again++) {
                CHECK.due("sheet(2,lane,40)", x.sheet(2, lane, 40), 1);
                for (int i = 0; i < 40; i++) {
                    x.input(0, 51);
                    CHECK.due("read of element " + i, x.read(2, lane, i, 1), 1);
                    CHECK.due("element " + i, x.input(0, 51), 0);
                    x.lay(2, i, 52);
                }
            }
        }
    }

    private static void inPlace() {
        KnownTurns x = new KnownTurns();
        for (int lane = 0; lane < 3; lane++) {
            CHECK.due("sheet(0,lane,3)", x.sheet(0, lane, 3), 1);
            for (int other = 0; other < 3; other++) {
                CHECK.due("read(0,other,0,3)", x.read(0, other, 0, 3), other == lane ? 3 : 0);
                CHECK.due("torn()", x.torn(), other == lane ? 0 : 3);
            }
        }
        // A call that is refused leaves type, size and elements.
        x.lay(0, 2, 17);
        int[][] refused = {{0, 0, -1}, {0, 0, 41}, {0, 3, 1}, {0, -1, 1}, {0, 1, MIN}, {0, 1, MAX}, {4, 0, 1}, {-1, 0, 1}};
        for (int[] call : refused) {
            CHECK.holds("sheet is refused", x.sheet(call[0], call[1], call[2]) < 0);
            CHECK.due("count(3)", x.count(3), 3);
            CHECK.due("read(0,2,2,1)", x.read(0, 2, 2, 1), 1);
            CHECK.due("input(0,51)", x.input(0, 51), 17);
        }
    }

    private static void laid(int lane, int v, long narrowed) {
        KnownTurns x = new KnownTurns();
        x.sheet(3, lane, 2);
        CHECK.due("lay(3,1," + v + ") of type " + lane, x.lay(3, 1, v), 1);
        boolean isValue = narrowed >= 0 && narrowed <= 51;
        CHECK.due("read of " + v + " of type " + lane, x.read(3, lane, 1, 1), isValue ? 1 : -20);
        CHECK.due("input 0", x.input(0, 9), isValue ? narrowed : 51);
        CHECK.due("the element before it", x.read(3, lane, 0, 1), 1);
        CHECK.due("input 0", x.input(0, 9), 0);
    }

    /** "narrowed to its type as by a Java cast", all of them "signed". */
    private static void narrowing() {
        int[] centers = {0, 128, -128, 256, -256, 32768, -32768, 65536, -65536, 1 << 24, MAX, MIN};
        for (int center : centers) {
            for (int v = center - 60; v != center + 60; v++) {
                laid(0, v, Math.floorMod((long) v + 128, 256L) - 128);
                laid(1, v, Math.floorMod((long) v + 32768, 65536L) - 32768);
                laid(2, v, v);
            }
        }
    }

    /** "is not a value, 0 to 51". */
    private static void values() {
        for (int lane = 0; lane < 3; lane++) {
            int[][] due = {{-1, 0}, {0, 1}, {50, 1}, {51, 1}, {52, 0}, {127, 0}, {-128, 0}};
            for (int[] row : due) {
                KnownTurns x = new KnownTurns();
                x.input(0, 20);
                x.sheet(1, lane, 1);
                x.lay(1, 0, row[0]);
                CHECK.due("read of " + row[0], x.read(1, lane, 0, 1), row[1] == 1 ? 1 : -20);
                CHECK.due("input 0", x.input(0, 20), row[1] == 1 ? row[0] : 20);
            }
        }
    }

    private static KnownTurns filled(int length) {
        KnownTurns x = new KnownTurns();
        x.sheet(1, 2, length);
        for (int i = 0; i < length; i++) {
            x.lay(1, i, 10 + i);
        }
        for (int i = 0; i < 8; i++) {
            x.input(i, 1 + i);
        }
        return x;
    }

    /** "If an array fault occurs at an element, the reading ends, and the elements before it become inputs." */
    private static void windows() {
        for (int length : new int[] {0, 1, 7, 8, 9, 40}) {
            for (int f : new int[] {MIN, -9, -8, -1, 0, 1, 2, length - 9, length - 8, length - 2, length - 1, length, length + 1, MAX - 7, MAX}) {
                for (int n = 0; n <= 8; n++) {
                    boolean starts = f >= 0 && f < length;
                    int due = starts ? Math.min(n, length - f) : 0;
                    KnownTurns x = filled(length);
                    CHECK.due("read(1,2," + f + "," + n + ") of " + length, x.read(1, 2, f, n), due);
                    CHECK.due("torn()", x.torn(), due == n ? 0 : 2);
                    for (int i = 0; i < 8; i++) {
                        CHECK.due("input " + i, x.input(i, 0), i < due ? 10 + f + i : 1 + i);
                    }
                }
            }
        }
    }

    private static void untouchedInputs() {
        KnownTurns x = filled(8);
        x.lay(1, 7, 52);
        CHECK.due("read(1,2,0,8)", x.read(1, 2, 0, 8), -27);
        CHECK.due("read(1,0,0,8)", x.read(1, 0, 0, 8), 0);
        CHECK.due("read(0,0,0,8)", x.read(0, 0, 0, 8), 0);
        CHECK.due("read(1,2,8,8)", x.read(1, 2, 8, 8), 0);
        CHECK.due("read(1,2,0,9)", x.read(1, 2, 0, 9), -1);
        for (int i = 0; i < 8; i++) {
            CHECK.due("input " + i, x.input(i, 1 + i), 1 + i);
        }
        CHECK.due("read(1,2,0,7)", x.read(1, 2, 0, 7), 7);
        CHECK.due("input 6", x.input(6, 0), 16);
        CHECK.due("input 7", x.input(7, 0), 8);
    }

    /** "if it is 0, nothing is read, and there is no array fault". */
    private static void nothingToRead() {
        for (int k = 0; k < 3; k++) {
            for (int f : new int[] {MIN, -1, 0, 8, 9, MAX}) {
                KnownTurns x = filled(8);
                x.lay(1, 0, 52);
                x.read(0, 0, 0, 1);
                CHECK.due("torn()", x.torn(), 1);
                CHECK.due("read(" + k + ",2," + f + ",0)", x.read(k, 2, f, 0), 0);
                CHECK.due("torn()", x.torn(), 0);
                x.read(0, 0, 0, 1);
                CHECK.due("read of another type", x.read(k, 1, f, 0), 0);
                CHECK.due("torn()", x.torn(), 0);
                CHECK.due("input 0", x.input(0, 1), 1);
            }
        }
    }

    /** "1 if the array is missing, 3 if it has another type, 2 if an index is out of bounds (the first of these that applies)". */
    private static void firstFaultOfTorn() {
        for (int f : new int[] {MIN, -1, 0, 8, MAX}) {
            KnownTurns x = filled(8);
            CHECK.due("read of a missing array", x.read(2, 2, f, 1), 0);
            CHECK.due("torn()", x.torn(), 1);
            for (int lane = 0; lane < 2; lane++) {
                CHECK.due("read of another type", x.read(1, lane, f, 1), 0);
                CHECK.due("torn()", x.torn(), 3);
            }
            CHECK.due("read of its type", x.read(1, 2, f, 1), f == 0 ? 1 : 0);
            CHECK.due("torn()", x.torn(), f == 0 ? 0 : 2);
        }
        KnownTurns x = new KnownTurns();
        x.sheet(0, 0, 0);
        CHECK.due("read of no elements", x.read(0, 1, 0, 1), 0);
        CHECK.due("another type comes first", x.torn(), 3);
        CHECK.due("read of no elements", x.read(0, 0, 0, 1), 0);
        CHECK.due("torn()", x.torn(), 2);
    }

    /** "the latest call of read() that returned 0 or more. (Other calls of read() do not change it.)"; "0 if there was none, or no such call". */
    private static void latestFault() {
        CHECK.due("torn() of a new object", new KnownTurns().torn(), 0);
        int[][] faulty = {{0, 2, 0, 1, 1}, {1, 2, 40, 1, 2}, {1, 0, 0, 1, 3}, {1, 2, 0, 1, 0}};
        for (int[] read : faulty) {
            KnownTurns x = filled(8);
            x.lay(1, 7, -1);
            x.read(read[0], read[1], read[2], read[3]);
            int due = read[4];
            CHECK.due("torn()", x.torn(), due);
            int[][] refused = {{4, 2, 0, 1}, {-1, 2, 0, 1}, {1, 3, 0, 1}, {1, -1, 0, 1}, {1, 2, 0, 9}, {1, 2, 0, -1},
                {1, 2, 7, 1}, {1, 2, 0, 8}, {1, 2, 6, 8}, {MAX, MIN, MAX, MIN}};
            for (int[] call : refused) {
                CHECK.holds("read is refused", x.read(call[0], call[1], call[2], call[3]) < 0);
                CHECK.due("torn() stays", x.torn(), due);
            }
            x.lay(0, 0, 0);
            x.lay(1, 99, 0);
            x.sheet(0, 0, -1);
            x.sheet(0, 0, 5);
            Check.type(x, "stop;");
            x.text();
            CHECK.due("torn() stays with other calls", x.torn(), due);
        }
        KnownTurns only = filled(8);
        CHECK.due("read(9,..)", only.read(9, 0, 0, 1), -1);
        CHECK.due("torn() behind a refused call alone", only.torn(), 0);
    }

    /** "-20 minus i if element number i .. is not a value .., and no array fault occurs before it". */
    private static void faultBeforeNoValue() {
        KnownTurns x = filled(3);
        x.lay(1, 2, 52);
        CHECK.due("no value, then out of bounds", x.read(1, 2, 0, 8), -22);
        CHECK.due("no value, then out of bounds", x.read(1, 2, 2, 2), -20);
        CHECK.due("out of bounds at once", x.read(1, 2, -1, 8), 0);
        CHECK.due("torn()", x.torn(), 2);
        CHECK.due("another type at once", x.read(1, 1, 2, 1), 0);
        CHECK.due("torn()", x.torn(), 3);
        CHECK.due("what is not read does not count", x.read(1, 2, 0, 2), 2);
        CHECK.due("torn()", x.torn(), 0);
        x.lay(1, 0, -1);
        CHECK.due("the first of two", x.read(1, 2, 0, 3), -20);
        x.lay(1, 0, 0);
        x.lay(1, 1, MAX);
        CHECK.due("the first of two", x.read(1, 2, 0, 3), -21);
    }

    private static void noValueOfEach() {
        for (int f = 0; f < 4; f++) {
            for (int i = 0; i < 8; i++) {
                KnownTurns x = filled(12);
                x.lay(1, f + i, i % 2 == 0 ? 52 : -1);
                CHECK.due("read(1,2," + f + ",8) with no value at " + i, x.read(1, 2, f, 8), -20 - i);
                CHECK.due("read up to there", x.read(1, 2, f, i), i);
                for (int k = 0; k < 8; k++) {
                    CHECK.due("input " + k, x.input(k, 0), k < i ? 10 + f + k : 1 + k);
                }
            }
        }
    }

    /** "0 for the images that are not empty", from none to both. */
    private static void images() {
        for (int k = 0; k < 2; k++) {
            KnownTurns x = Check.of("stop;");
            CHECK.due("count(0)", x.count(0), 0);
            CHECK.due("keep(" + k + ")", x.keep(k), 0);
            CHECK.due("count(0)", x.count(0), 1);
            CHECK.due("keep(" + k + ")", x.keep(k), 1);
            CHECK.due("count(0)", x.count(0), 1);
            CHECK.due("keep(" + (1 - k) + ")", x.keep(1 - k), 0);
            CHECK.due("count(0)", x.count(0), 2);
            CHECK.due("back(" + k + ")", x.back(k), 1);
            CHECK.due("count(0) behind back()", x.count(0), 2);
            CHECK.due("draw(0,0), refused", x.draw(0, 0), -1);
            CHECK.due("count(0)", x.count(0), 2);
            CHECK.due("draw(0,1)", x.draw(0, 1) >= 0 ? 1 : 0, 1);
            CHECK.due("count(0)", x.count(0), 0);
        }
    }

    /** "1 for the length of the tape, 2 for the inputs that are nil", "4 for the limit". */
    private static void tapeAndInputs() {
        KnownTurns x = new KnownTurns();
        for (int i = 0; i <= 200; i++) {
            CHECK.due("count(1)", x.count(1), i);
            x.feed(' ');
        }
        CHECK.due("count(1) of a full tape", x.count(1), 200);
        for (int i = 0; i < 8; i++) {
            CHECK.due("count(2)", x.count(2), 8 - i);
            x.input(i, 50 * (i % 2));
        }
        CHECK.due("count(2) without nil", x.count(2), 0);
        x.input(3, 51);
        CHECK.due("count(2)", x.count(2), 1);
        CHECK.due("text()", x.text(), 0);
        CHECK.due("count(1)", x.count(1), 0);
        CHECK.due("count(2)", x.count(2), 1);
        CHECK.due("count(4) at first", x.count(4), 4);
        CHECK.due("limit(5)", x.limit(5), -1);
        CHECK.due("count(4)", x.count(4), 4);
        CHECK.due("limit(0)", x.limit(0), 4);
        CHECK.due("count(4)", x.count(4), 0);
    }
}
