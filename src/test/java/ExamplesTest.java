/** The four examples of the document, call by call. */
public final class ExamplesTest {
    private static final Check CHECK = new Check();

    public static void main(String[] args) {
        testOfNil();
        drawnProgram();
        inputsFromArrays();
        faultsAndErrors();
        CHECK.finish();
    }

    private static void testOfNil() {
        KnownTurns x = new KnownTurns();
        String text = "if a<5 0 0;";
        for (int i = 0; i < text.length(); i++) {
            CHECK.due("1: feed", x.feed(text.charAt(i)), i + 1);
        }
        CHECK.due("1: text()", x.text(), 1);
        CHECK.due("1: outcome(0)", x.outcome(0), 2);
        CHECK.due("1: why(0,1)", x.why(0, 1), 4);
        CHECK.due("1: ran(0,0)", x.ran(0, 0), 60);
        CHECK.due("1: fold()", x.fold(), 1);
    }

    private static void drawnProgram() {
        KnownTurns x = new KnownTurns();
        CHECK.due("2: draw(7,5)", x.draw(7, 5), 4);
        CHECK.due("2: program(0,2)", x.program(0, 2), 4);
        CHECK.due("2: program(1,4)", x.program(1, 4), 2);
        CHECK.due("2: program(1,7)", x.program(1, 7), 1);
        CHECK.due("2: block(1,0,1)", x.block(1, 0, 1), 1);
        CHECK.due("2: range(0,0,2)", x.range(0, 0, 2), 1);
        CHECK.due("2: threads(4)", x.threads(4), 1);
        CHECK.due("2: fold()", x.fold(), 0);
        CHECK.due("2: sweep()", x.sweep(), 4);
        CHECK.due("2: program(1,0)", x.program(1, 0), 2);
        CHECK.due("2: ran(0,2)", x.ran(0, 2), 30);
        CHECK.due("2: ran(1,2)", x.ran(1, 2), 0);
        CHECK.due("2: saved(3,5)", x.saved(3, 5), 150);
        CHECK.due("2: path(1,1)", x.path(1, 1), 1);
        CHECK.due("2: keep(0)", x.keep(0), 0);
        CHECK.due("2: back(0)", x.back(0), 2);
    }

    private static void inputsFromArrays() {
        KnownTurns x = new KnownTurns();
        CHECK.due("3: sheet(1,0,3)", x.sheet(1, 0, 3), 1);
        CHECK.due("3: lay(1,0,7)", x.lay(1, 0, 7), 1);
        CHECK.due("3: lay(1,1,51)", x.lay(1, 1, 51), 1);
        CHECK.due("3: lay(1,2,52)", x.lay(1, 2, 52), 1);
        CHECK.due("3: read(1,0,0,2)", x.read(1, 0, 0, 2), 2);
        CHECK.due("3: read(1,0,0,3)", x.read(1, 0, 0, 3), -22);
        CHECK.due("3: torn()", x.torn(), 0);
        CHECK.due("3: read(1,1,0,2)", x.read(1, 1, 0, 2), 0);
        CHECK.due("3: torn()", x.torn(), 3);
        CHECK.due("3: read(1,0,1,8)", x.read(1, 0, 1, 8), -21);
        CHECK.due("3: read(0,0,0,1)", x.read(0, 0, 0, 1), 0);
        CHECK.due("3: torn()", x.torn(), 1);
        CHECK.due("3: read(1,0,2,0)", x.read(1, 0, 2, 0), 0);
        CHECK.due("3: input(0,9)", x.input(0, 9), 7);
        CHECK.due("3: count(2)", x.count(2), 7);
        CHECK.due("3: lay(2,0,0)", x.lay(2, 0, 0), -11);
    }

    private static void faultsAndErrors() {
        KnownTurns x = new KnownTurns();
        CHECK.due("4: feed(128)", x.feed(128), -1);
        CHECK.due("4: feed(57)", x.feed(57), 1);
        CHECK.due("4: feed(57)", x.feed(57), 2);
        CHECK.due("4: feed(57)", x.feed(57), 3);
        CHECK.due("4: text()", x.text(), -10);
        CHECK.due("4: fault()", x.fault(), 1);
        CHECK.due("4: text()", x.text(), 0);
        CHECK.due("4: end(1)", x.end(1), -1);
        CHECK.due("4: program(2,0)", x.program(2, 0), -1);
        CHECK.due("4: block(0,0,0)", x.block(0, 0, 0), -1);
        CHECK.due("4: thread(0,0)", x.thread(0, 0), -1);
        CHECK.due("4: limit(5)", x.limit(5), -1);
        CHECK.due("4: limit(0)", x.limit(0), 4);
        CHECK.due("4: back(1)", x.back(1), -2);
        CHECK.due("4: sheet(0,0,-1)", x.sheet(0, 0, -1), -14);
        CHECK.due("4: ran(1,4)", x.ran(1, 4), 1);
    }
}
