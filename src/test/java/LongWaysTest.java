import java.util.Random;

/** Programs in which ranges grow for very long before they rest, and in which blocks are reached on long ways alone. */
public final class LongWaysTest {
    private static final Check CHECK = new Check();
    // Each variable counts only once the one before it has come to its end, and what a round changes is seen a block earlier.
    private static final String UP = "set a 0 set b 0 set c 0 set d 0 go 7;go 7;go 1;go 2;add d 1 go 3;"
        + "add c 1 if c=50 4 3;add b 1 if b=50 5 3;add a 1 if a=50 6 3;";
    private static final String DOWN = "set a 50 set b 50 set c 50 set d 50 go 7;go 7;go 1;go 2;sub d 1 go 3;"
        + "sub c 1 if c=0 4 3;sub b 1 if b=0 5 3;sub a 1 if a=0 6 3;";
    private static final String LATE = "set a 0 set b 0 set c 0 go 7;go 7;go 1;go 2;move a d go 3;"
        + "add c 1 if c=50 4 3;add b 1 if b=50 5 3;add a 1 if a=50 6 3;";
    private static final String ROUNDABOUT = "read a read b if a<5 4 7;if a=9 6 5;if a<5 7 1;if a=5 2 2;if a<5 3 3;if b=9 4 4;"
        + "if a<5 5 5;if a<5 6 6;";

    public static void main(String[] args) {
        countingUp();
        countingDown();
        openedLate();
        roundabout();
        downwards();
        CHECK.finish();
    }

    /** The ranges of a to d before a block, as least and greatest numbers; none of them can be nil. */
    private static void before(KnownTurns x, int b, int... bounds) {
        for (int v = 0; v < 4; v++) {
            CHECK.due("range(" + b + "," + v + ",0)", x.range(b, v, 0), bounds[2 * v]);
            CHECK.due("range(" + b + "," + v + ",1)", x.range(b, v, 1), bounds[2 * v + 1]);
            CHECK.due("range(" + b + "," + v + ",2)", x.range(b, v, 2), 0);
        }
    }

    /** "The ranges are the smallest ones for which the following holds", however long they grow. */
    private static void countingUp() {
        KnownTurns x = Check.of(UP);
        before(x, 7, 0, 50, 0, 50, 0, 50, 0, 50);
        before(x, 6, 50, 50, 0, 50, 0, 50, 0, 50);
        before(x, 5, 50, 50, 50, 50, 0, 50, 0, 50);
        before(x, 4, 50, 50, 50, 50, 50, 50, 0, 50);
        for (int b = 1; b <= 3; b++) {
            before(x, b, 1, 50, 0, 50, 0, 50, 0, 50);
        }
        likeModel(x, modelOf(UP));
    }

    private static void countingDown() {
        KnownTurns x = Check.of(DOWN);
        before(x, 7, 0, 50, 0, 50, 0, 50, 0, 50);
        before(x, 6, 0, 0, 0, 50, 0, 50, 0, 50);
        before(x, 5, 0, 0, 0, 0, 0, 50, 0, 50);
        before(x, 4, 0, 0, 0, 0, 0, 0, 0, 50);
        for (int b = 1; b <= 3; b++) {
            before(x, b, 0, 49, 0, 50, 0, 50, 0, 50);
        }
        likeModel(x, modelOf(DOWN));
    }

    /** Block 4 is reached only when all numbers have come to rest, and nil goes on from there. */
    private static void openedLate() {
        KnownTurns x = Check.of(LATE);
        CHECK.due("reached blocks", x.program(1, 4), 8);
        int[][] due = {{1, 1, 50, 1}, {2, 1, 50, 1}, {3, 1, 50, 1}, {4, 50, 50, 0}, {5, 50, 50, 0}, {6, 50, 50, 0}, {7, 0, 50, 1}};
        for (int[] row : due) {
            for (int what = 0; what < 3; what++) {
                CHECK.due("range(" + row[0] + ",0," + what + ")", x.range(row[0], 0, what), row[1 + what]);
            }
        }
        likeModel(x, modelOf(LATE));
    }

    private static Model modelOf(String text) {
        Model model = new Model();
        for (int i = 0; i < text.length(); i++) {
            model.feed(text.charAt(i));
        }
        model.text();
        return model;
    }

    private static void likeModel(KnownTurns x, Model model) {
        int blocks = model.program(1, 0);
        for (int b = 0; b < blocks; b++) {
            for (int i = 0; i < 12; i++) {
                CHECK.due("range(" + b + "," + i / 3 + "," + i % 3 + ")", x.range(b, i / 3, i % 3), model.range(b, i / 3, i % 3));
            }
            for (int side = 0; side < 2; side++) {
                CHECK.due("known(" + b + "," + side + ")", x.known(b, side), model.known(b, side));
                CHECK.due("loop(" + b + "," + side + ")", x.loop(b, side), model.loop(b, side));
            }
        }
    }

    private static void dominatorsLikeModel(String name, KnownTurns x, Model model) {
        int blocks = model.program(1, 0);
        CHECK.due("program(1,0) of " + name, x.program(1, 0), blocks);
        for (int b = 0; b < blocks; b++) {
            for (int a = 0; a < blocks; a++) {
                CHECK.due("dominates(" + a + "," + b + ") of " + name, x.dominates(a, b), model.dominates(a, b));
            }
            CHECK.due("loop(" + b + ",0) of " + name, x.loop(b, 0), model.loop(b, 0));
            CHECK.due("loop(" + b + ",1) of " + name, x.loop(b, 1), model.loop(b, 1));
        }
    }

    /** Without one of its blocks, the way to another one goes down nine times in the sequence of the blocks. */
    private static void roundabout() {
        KnownTurns x = Check.of(ROUNDABOUT);
        Model model = modelOf(ROUNDABOUT);
        int[][] edges = {{3, 0}, {7, 0}, {2, 0}, {4, 0}, {8, 0}, {0, 0}, {11, 0}};
        for (int i = 0; i < edges.length; i++) {
            CHECK.due("thread(" + edges[i][0] + "," + edges[i][1] + ")", x.thread(edges[i][0], edges[i][1]), 8 + i);
            model.thread(edges[i][0], edges[i][1]);
        }
        dominatorsLikeModel(ROUNDABOUT, x, model);
    }

    /** Tests that mostly lead to the block before them, threaded anywhere. */
    private static void downwards() {
        Random random = new Random(5);
        for (int number = 0; number < 400; number++) {
            String text = downwards(random);
            KnownTurns x = Check.of(text);
            Model model = modelOf(text);
            for (int tries = 0; tries < 24; tries++) {
                int b = random.nextInt(model.program(1, 0));
                int side = random.nextInt(2);
                CHECK.due("thread(" + b + "," + side + ") of " + text, x.thread(b, side), model.thread(b, side));
            }
            dominatorsLikeModel(text, x, model);
        }
    }

    private static String downwards(Random random) {
        StringBuilder text = new StringBuilder("read a read b ");
        for (int b = 0; b < 8; b++) {
            text.append("if ").append(random.nextInt(5) == 0 ? "b" : "a").append(random.nextInt(3) == 0 ? "=" : "<")
                .append(random.nextInt(3) == 0 ? 9 : 5);
            for (int side = 0; side < 2; side++) {
                text.append(' ').append(random.nextInt(3) == 0 ? random.nextInt(8) : (b + 7) % 8);
            }
            text.append(';');
        }
        return text.toString();
    }
}
