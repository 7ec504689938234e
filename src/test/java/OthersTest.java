import java.util.Map;
import java.util.function.Supplier;

/** "Creates an object ..": what is done to one object is not seen in another, whether it was made before or behind it. */
public final class OthersTest {
    private static final Check CHECK = new Check();

    public static void main(String[] args) {
        beside("a new object made before", KnownTurns::new, OthersTest::newBefore);
        beside("a new object made behind", KnownTurns::new, OthersTest::newBehind);
        beside("a busy object", RefusedTest::busy, () -> stirredBeside(RefusedTest.busy()));
        beside("sixteen blocks", ArgumentsTest::sixteen, () -> stirredBeside(ArgumentsTest.sixteen()));
        inTurns();
        CHECK.finish();
    }

    private static void beside(String name, Supplier<KnownTurns> alone, Supplier<KnownTurns> together) {
        Map<String, String> due = Portrait.of(alone);
        Map<String, String> views = Portrait.of(together);
        for (String view : due.keySet()) {
            CHECK.holds(name + ": " + view, views.get(view).equals(due.get(view)));
        }
    }

    private static KnownTurns newBefore() {
        KnownTurns x = new KnownTurns();
        stir(new KnownTurns());
        return x;
    }

    private static KnownTurns newBehind() {
        stir(new KnownTurns());
        return new KnownTurns();
    }

    /** What was found for the object must not be overwritten by what is found for another. */
    private static KnownTurns stirredBeside(KnownTurns x) {
        x.range(0, 0, 0);
        x.dominates(0, 0);
        x.ran(1, 0);
        stir(new KnownTurns());
        return x;
    }

    /** Changes everything that an object has. */
    private static void stir(KnownTurns other) {
        other.draw(7, 5);
        other.threads(16);
        other.keep(0);
        other.sweep();
        other.keep(1);
        other.range(1, 0, 0);
        other.loop(1, 1);
        other.limit(0);
        for (int i = 0; i < 8; i++) {
            other.input(i, 40 + i);
        }
        for (int k = 0; k < 4; k++) {
            other.sheet(k, k % 3, 40 - k);
            other.lay(k, k, 30 + k);
        }
        other.read(0, 2, 0, 1);
        Check.type(other, "go 8;");
        other.text();
        Check.type(other, "set c 9 stop");
        other.saved(3, 10);
        other.ran(0, 0);
    }

    /** Two objects that are fed and asked in turns. */
    private static void inTurns() {
        String[] texts = {"read a if a<5 1 1;if a<9 0 2;stop;", "set d 50 go 1;if d=50 2 1;write d stop;"};
        KnownTurns[] both = {new KnownTurns(), new KnownTurns()};
        for (int i = 0; i < texts[1].length(); i++) {
            for (int k = 0; k < 2; k++) {
                if (i < texts[k].length()) {
                    CHECK.due("feed in turns", both[k].feed(texts[k].charAt(i)), i + 1);
                }
            }
        }
        CHECK.due("text() of the one", both[0].text(), 3);
        CHECK.due("text() of the other", both[1].text(), 3);
        int[][] due = {{0, 0, 0, 50, 0}, {-4, 1, 50, 50, 4}};
        for (int again = 0; again < 2; again++) {
            for (int k = 0; k < 2; k++) {
                CHECK.due("outcome(0)", both[k].outcome(0), due[k][0]);
                CHECK.due("outcome(1)", both[k].outcome(1), due[k][1]);
                CHECK.due("range(1,3 k,0)", both[k].range(1, 3 * k, 0), due[k][2]);
                CHECK.due("range(1,3 k,1)", both[k].range(1, 3 * k, 1), due[k][3]);
                CHECK.due("why(0,0)", both[k].why(0, 0), due[k][4]);
            }
        }
    }
}
