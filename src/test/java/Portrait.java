import java.util.LinkedHashMap;
import java.util.Map;
import java.util.function.Consumer;
import java.util.function.Supplier;

/**
 * All that calls can show of an object, in views. Some calls that show a thing change it, and an object is promised
 * for 512 calls alone, so each view is taken of an object of its own, made anew.
 */
final class Portrait {
    // What is left to a view of the 512 calls, if making the object took up to 220 of them.
    private static final int MOST_CALLS = 292;

    private final StringBuilder answers = new StringBuilder();
    private final KnownTurns x;
    private int calls = 0;

    private Portrait(KnownTurns x) {
        this.x = x;
    }

    /** The views by name, in a fixed sequence. */
    static Map<String, String> of(Supplier<KnownTurns> maker) {
        Map<String, String> views = new LinkedHashMap<>();
        for (int program = 0; program < 2; program++) {
            int p = program;
            views.put("the blocks of program " + p, view(maker, seen -> seen.blocks(p)));
            views.put("the acts of program " + p, view(maker, seen -> seen.acts(p)));
            views.put("the runs of program " + p, view(maker, seen -> seen.runs(p)));
            views.put("the ranges along side " + p, view(maker, seen -> seen.along(p)));
            views.put("the blocks in image " + p, view(maker, seen -> seen.imageBlocks(p)));
            views.put("the acts in image " + p, view(maker, seen -> seen.imageActs(p)));
        }
        views.put("the ranges before blocks", view(maker, Portrait::ranges));
        views.put("the outcomes and reasons", view(maker, Portrait::edges));
        views.put("the dominators", view(maker, Portrait::dominators));
        views.put("the inputs", view(maker, Portrait::inputs));
        views.put("the limit", view(maker, seen -> seen.ask(seen.x.count(4))));
        views.put("the number of images", view(maker, seen -> seen.ask(seen.x.count(0))));
        views.put("fault()", view(maker, seen -> seen.ask(seen.x.fault())));
        views.put("torn()", view(maker, seen -> seen.ask(seen.x.torn())));
        views.put("the tape", view(maker, Portrait::tape));
        views.put("the length of array 0", view(maker, seen -> seen.ask(seen.x.count(3))));
        for (int array = 0; array < 4; array++) {
            int k = array;
            for (int type = 0; type < 3; type++) {
                int lane = type;
                views.put("array " + k + " as type " + lane, view(maker, seen -> seen.array(k, lane)));
            }
        }
        return views;
    }

    private static String view(Supplier<KnownTurns> maker, Consumer<Portrait> look) {
        Portrait portrait = new Portrait(maker.get());
        look.accept(portrait);
        return portrait.answers.toString();
    }

    private void ask(int answer) {
        calls++;
        if (calls > MOST_CALLS) {
            throw new IllegalStateException("a view has too many calls");
        }
        answers.append(answer).append(' ');
    }

    private void blocks(int p) {
        for (int what = 0; what < 9; what++) {
            ask(x.program(p, what));
        }
        for (int b = 0; b < 16; b++) {
            for (int what = 0; what < 8; what++) {
                ask(x.block(p, b, what));
            }
        }
    }

    private void acts(int p) {
        for (int b = 0; b < 16; b++) {
            for (int i = 0; i < 5; i++) {
                for (int what = 0; what < 3; what++) {
                    ask(x.act(p, b, i, what));
                }
            }
        }
    }

    private void runs(int p) {
        for (int what = 0; what < 10; what++) {
            ask(x.ran(p, what));
        }
        for (int i = 0; i <= 60; i++) {
            ask(x.path(p, i));
            ask(x.wrote(p, i));
        }
    }

    private void ranges() {
        for (int b = 0; b < 16; b++) {
            for (int v = 0; v < 4; v++) {
                for (int what = 0; what < 3; what++) {
                    ask(x.range(b, v, what));
                }
            }
        }
    }

    private void along(int side) {
        for (int b = 0; b < 16; b++) {
            for (int v = 0; v < 4; v++) {
                for (int what = 0; what < 3; what++) {
                    ask(x.along(b, side, v, what));
                }
            }
        }
    }

    private void edges() {
        for (int b = 0; b < 16; b++) {
            ask(x.outcome(b));
            for (int side = 0; side < 2; side++) {
                ask(x.known(b, side));
                ask(x.why(b, side));
                ask(x.loop(b, side));
            }
        }
    }

    private void dominators() {
        for (int a = 0; a < 16; a++) {
            for (int b = 0; b < 16; b++) {
                ask(x.dominates(a, b));
            }
        }
    }

    private boolean takeBack(int k) {
        int blocks = x.back(k);
        ask(blocks);
        return blocks >= 0;
    }

    private void imageBlocks(int k) {
        if (takeBack(k)) {
            blocks(1);
        }
    }

    private void imageActs(int k) {
        if (takeBack(k)) {
            acts(1);
        }
    }

    private void inputs() {
        ask(x.count(2));
        for (int i = 0; i < 8; i++) {
            ask(x.input(i, 0));
        }
    }

    private void tape() {
        ask(x.count(1));
        ask(x.text());
        ask(x.fault());
        blocks(0);
    }

    private void array(int k, int lane) {
        x.input(0, 50);
        for (int f = 0; f <= 40; f++) {
            ask(x.read(k, lane, f, 1));
            ask(x.torn());
            ask(x.input(0, 50));
        }
    }
}
