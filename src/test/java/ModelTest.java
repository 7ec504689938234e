import java.util.Random;

/** Random runs of calls, ordinary and wrong ones, each answered by the class and by the model. */
public final class ModelTest {
    private static final int OBJECTS = 1000;
    private static final int CALLS = 512;
    private static final String[] NAMES = {"feed", "end", "text", "fault", "program", "block", "act", "range", "along",
        "outcome", "known", "why", "dominates", "loop", "thread", "threads", "fold", "sweep", "limit", "input", "ran",
        "wrote", "path", "saved", "lead", "draw", "keep", "back", "sheet", "lay", "read", "torn", "count"};
    // How often each of them is called, in the same order.
    private static final int[] WEIGHTS = {2, 2, 0, 2, 8, 8, 6, 24, 24, 10, 12, 12, 6, 6, 6, 1, 1, 1, 2, 6, 8,
        6, 6, 3, 1, 0, 2, 2, 2, 5, 5, 4, 5};

    private final Random random;
    private final Texts texts;
    private final Check check;
    private final KnownTurns turns = new KnownTurns();
    private final Model model = new Model();
    private final int number;
    private int calls = 0;

    private ModelTest(int number, Check check) {
        this.number = number;
        this.check = check;
        random = new Random(number);
        texts = new Texts(random);
    }

    public static void main(String[] args) {
        Check check = new Check();
        for (int number = 0; number < OBJECTS; number++) {
            new ModelTest(number, check).go();
        }
        check.finish();
    }

    private void go() {
        while (calls < CALLS) {
            startProgram();
            if (random.nextBoolean()) {
                optimize();
            }
            for (int left = 60 + random.nextInt(200); left > 0; left--) {
                step();
            }
        }
    }

    private void startProgram() {
        int odd = random.nextInt(10);
        if (odd == 0) {
            call("draw", random.nextInt(), 1 + random.nextInt(8), 0, 0);
        } else if (odd < 4) {
            int blocks = 3 + random.nextInt(6);
            call("draw", liveSeed(blocks), blocks, 0, 0);
        } else {
            type(texts.next());
        }
    }

    /** A seed of a program most of which is reached, if one is soon found. */
    private int liveSeed(int blocks) {
        int seed = random.nextInt();
        for (int tries = 0; tries < 40; tries++) {
            Model probe = new Model();
            probe.draw(seed, blocks);
            if (2 * probe.program(1, 4) > blocks) {
                return seed;
            }
            seed = random.nextInt();
        }
        return seed;
    }

    private void optimize() {
        call("threads", random.nextBoolean() ? 16 : 1 + random.nextInt(16), 0, 0, 0);
        if (random.nextInt(3) == 0) {
            call("fold", 0, 0, 0, 0);
            call("threads", 16, 0, 0, 0);
        }
        if (random.nextInt(3) == 0) {
            call("sweep", 0, 0, 0, 0);
        }
    }

    private void step() {
        int sum = 0;
        for (int weight : WEIGHTS) {
            sum += weight;
        }
        int at = random.nextInt(sum);
        int name = 0;
        while (at >= WEIGHTS[name]) {
            at -= WEIGHTS[name];
            name++;
        }
        randomCall(NAMES[name]);
    }

    private int some(int top) {
        int odd = random.nextInt(250);
        if (odd == 0) {
            return Integer.MIN_VALUE;
        }
        if (odd == 1) {
            return Integer.MAX_VALUE;
        }
        return odd < 8 ? random.nextInt(top + 5) - 2 : random.nextInt(top + 1);
    }

    private int someBlock() {
        int blocks = model.program(1, 0);
        return some(blocks == 0 ? 1 : blocks - 1);
    }

    private void randomCall(String name) {
        switch (name) {
            case "feed": call(name, some(127), 0, 0, 0); break;
            case "end": call(name, some(model.count(1)), 0, 0, 0); break;
            case "program": call(name, some(1), some(8), 0, 0); break;
            case "block": call(name, some(1), someBlock(), some(7), 0); break;
            case "act": call(name, some(1), someBlock(), some(3), some(2)); break;
            case "range": call(name, someBlock(), some(3), some(2), 0); break;
            case "along": call(name, someBlock(), some(1), some(3), some(2)); break;
            case "outcome": call(name, someBlock(), 0, 0, 0); break;
            case "known": case "why": case "thread": call(name, someBlock(), some(1), 0, 0); break;
            case "dominates": call(name, someBlock(), someBlock(), 0, 0); break;
            case "loop": call(name, someBlock(), some(1), 0, 0); break;
            case "threads": call(name, some(16), 0, 0, 0); break;
            case "limit": call(name, some(random.nextBoolean() ? 4 : 9), 0, 0, 0); break;
            case "input": call(name, some(7), some(51), 0, 0); break;
            case "ran": call(name, some(1), some(9), 0, 0); break;
            case "wrote": call(name, some(1), some(random.nextInt(240)), 0, 0); break;
            case "path": call(name, some(1), some(60), 0, 0); break;
            case "saved": call(name, random.nextInt(), some(10), 0, 0); break;
            case "lead": call(name, someBlock(), some(1), someBlock(), 0); break;
            case "draw": call(name, random.nextInt(), some(8), 0, 0); break;
            case "keep": case "back": call(name, some(1), 0, 0, 0); break;
            case "sheet": call(name, some(3), some(2), some(random.nextBoolean() ? 40 : 6), 0); break;
            case "lay": call(name, some(3), some(9), random.nextInt(3) == 0 ? random.nextInt() : some(52), 0); break;
            case "read": call(name, some(3), some(2), some(5), some(8)); break;
            case "count": call(name, some(4), 0, 0, 0); break;
            default: call(name, 0, 0, 0, 0); break;
        }
    }

    private void type(String text) {
        if (random.nextInt(4) > 0) {
            call("end", 0, 0, 0, 0);
        }
        for (int i = 0; i < text.length(); i++) {
            call("feed", text.charAt(i), 0, 0, 0);
        }
        call("text", 0, 0, 0, 0);
        call("fault", 0, 0, 0, 0);
    }

    private void call(String name, int a, int b, int c, int d) {
        if (calls == CALLS) {
            return;
        }
        calls++;
        check.due("object " + number + ", call " + calls + ": " + name + " of " + a + " " + b + " " + c + " " + d,
            answer(name, a, b, c, d), due(name, a, b, c, d));
    }

    private int answer(String name, int a, int b, int c, int d) {
        switch (name) {
            case "feed": return turns.feed(a);
            case "end": return turns.end(a);
            case "text": return turns.text();
            case "fault": return turns.fault();
            case "program": return turns.program(a, b);
            case "block": return turns.block(a, b, c);
            case "act": return turns.act(a, b, c, d);
            case "range": return turns.range(a, b, c);
            case "along": return turns.along(a, b, c, d);
            case "outcome": return turns.outcome(a);
            case "known": return turns.known(a, b);
            case "why": return turns.why(a, b);
            case "dominates": return turns.dominates(a, b);
            case "loop": return turns.loop(a, b);
            case "thread": return turns.thread(a, b);
            case "threads": return turns.threads(a);
            case "fold": return turns.fold();
            case "sweep": return turns.sweep();
            case "limit": return turns.limit(a);
            case "input": return turns.input(a, b);
            case "ran": return turns.ran(a, b);
            case "wrote": return turns.wrote(a, b);
            case "path": return turns.path(a, b);
            case "saved": return turns.saved(a, b);
            case "lead": return turns.lead(a, b, c);
            case "draw": return turns.draw(a, b);
            case "keep": return turns.keep(a);
            case "back": return turns.back(a);
            case "sheet": return turns.sheet(a, b, c);
            case "lay": return turns.lay(a, b, c);
            case "read": return turns.read(a, b, c, d);
            case "torn": return turns.torn();
            case "count": return turns.count(a);
            default: throw new IllegalArgumentException(name);
        }
    }

    private int due(String name, int a, int b, int c, int d) {
        switch (name) {
            case "feed": return model.feed(a);
            case "end": return model.end(a);
            case "text": return model.text();
            case "fault": return model.fault();
            case "program": return model.program(a, b);
            case "block": return model.block(a, b, c);
            case "act": return model.act(a, b, c, d);
            case "range": return model.range(a, b, c);
            case "along": return model.along(a, b, c, d);
            case "outcome": return model.outcome(a);
            case "known": return model.known(a, b);
            case "why": return model.why(a, b);
            case "dominates": return model.dominates(a, b);
            case "loop": return model.loop(a, b);
            case "thread": return model.thread(a, b);
            case "threads": return model.threads(a);
            case "fold": return model.fold();
            case "sweep": return model.sweep();
            case "limit": return model.limit(a);
            case "input": return model.input(a, b);
            case "ran": return model.ran(a, b);
            case "wrote": return model.wrote(a, b);
            case "path": return model.path(a, b);
            case "saved": return model.saved(a, b);
            case "lead": return model.lead(a, b, c);
            case "draw": return model.draw(a, b);
            case "keep": return model.keep(a);
            case "back": return model.back(a);
            case "sheet": return model.sheet(a, b, c);
            case "lay": return model.lay(a, b, c);
            case "read": return model.read(a, b, c, d);
            case "torn": return model.torn();
            case "count": return model.count(a);
            default: throw new IllegalArgumentException(name);
        }
    }
}
