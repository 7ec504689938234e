import java.util.Random;

/** Threading, folding and sweeping never change what a program does, but for its tests. */
public final class AlikeTest {
    private static final Check CHECK = new Check();

    public static void main(String[] args) {
        Random random = new Random(20);
        Texts texts = new Texts(random);
        for (int i = 0; i < 4000; i++) {
            KnownTurns x = new KnownTurns();
            if (i % 2 == 0) {
                x.draw(random.nextInt(), 1 + random.nextInt(8));
            } else {
                Check.type(x, texts.next());
                x.text();
            }
            change(x, random);
            for (int round = 0; round < 3; round++) {
                for (int k = 0; k < 8; k++) {
                    x.input(k, random.nextInt(52));
                }
                compare(x);
            }
            CHECK.holds("saved() is not negative", x.saved(random.nextInt(), 10) >= 0);
        }
        CHECK.finish();
    }

    private static void change(KnownTurns x, Random random) {
        for (int step = 0; step < 3; step++) {
            x.limit(random.nextInt(5));
            switch (random.nextInt(3)) {
                case 0: x.threads(1 + random.nextInt(16)); break;
                case 1: x.fold(); break;
                default: x.sweep(); break;
            }
        }
    }

    private static void compare(KnownTurns x) {
        for (int what = 0; what < 10; what++) {
            if (what != 2) {
                CHECK.due("ran(1," + what + ")", x.ran(1, what), x.ran(0, what));
            }
        }
        CHECK.holds("no more tests than before", x.ran(1, 2) <= x.ran(0, 2));
        for (int i = 0; i < x.ran(0, 3); i++) {
            CHECK.due("wrote(1," + i + ")", x.wrote(1, i), x.wrote(0, i));
        }
        for (int i = 0; i < x.ran(0, 0); i++) {
            CHECK.due("origin of path(1," + i + ")", x.block(1, x.path(1, i), 7), x.path(0, i));
            CHECK.holds("what is entered is reached", x.range(x.path(1, i), 0, 2) >= 0);
        }
    }
}
