/** What all tests share: counting wrong answers, and putting texts on the tape. */
final class Check {
    private int wrong = 0;
    private int asked = 0;

    void due(String call, long got, long want) {
        asked++;
        if (got != want) {
            wrong++;
            System.out.println(call + " answered " + got + ", due is " + want);
        }
    }

    void holds(String what, boolean held) {
        due(what, held ? 1 : 0, 1);
    }

    /** Ends the program with exit code 1 if an answer was wrong. */
    void finish() {
        System.out.println(asked + " answers, " + wrong + " of them wrong");
        if (wrong != 0 || asked == 0) {
            System.exit(1);
        }
    }

    static void type(KnownTurns turns, String text) {
        for (int i = 0; i < text.length(); i++) {
            turns.feed(text.charAt(i));
        }
    }

    /** A new object whose programs are those of the text. */
    static KnownTurns of(String text) {
        KnownTurns turns = new KnownTurns();
        type(turns, text);
        int answer = turns.text();
        if (answer < 0) {
            throw new IllegalStateException("the text '" + text + "' has fault " + turns.fault() + " at " + (-10 - answer));
        }
        return turns;
    }
}
