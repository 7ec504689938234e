/** The document's draws, in longs and without a shift of the sign, so that the wrapping is told in another way than by the class. */
final class Drawn {
    private static final long INTS = 1L << 32;
    private long seed;

    Drawn(int seed) {
        this.seed = Math.floorMod((long) seed, INTS);
    }

    /** A draw as it is, 0 to 32767. */
    int whole() {
        seed = Math.floorMod(seed * 1103515245L + 12345L, INTS);
        return (int) (seed / 65536 % 32768);
    }

    int modulo(int n) {
        return whole() % n;
    }

    /** The seed as the int that it is now. */
    int seed() {
        return (int) (seed >= INTS / 2 ? seed - INTS : seed);
    }

    /** How many tests draw() makes with this seed. */
    static int testsOf(int seed, int n) {
        Drawn drawn = new Drawn(seed);
        int tests = 0;
        for (int b = 0; b < n; b++) {
            tests += drawn.skipBlock() >= 2 ? 1 : 0;
        }
        return tests;
    }

    private int skipBlock() {
        for (int left = modulo(4); left > 0; left--) {
            int kind = modulo(6);
            whole();
            if (kind < 4) {
                whole();
            }
        }
        int end = new int[] {0, 1, 2, 3, 2}[modulo(5)];
        for (int left = new int[] {0, 1, 4, 4}[end]; left > 0; left--) {
            whole();
        }
        return end;
    }
}
