import java.util.function.Supplier;

/** One argument of a call at and outside of its bounds, each time on a new object; # in a call's name is the argument. */
final class Bounds {
    interface Call {
        int of(KnownTurns x, int argument);
    }

    private final Check check;
    private final Supplier<KnownTurns> maker;

    Bounds(Check check, Supplier<KnownTurns> maker) {
        this.check = check;
        this.maker = maker;
    }

    /** The first and the last one that are allowed, and BAD outside, to the smallest and the largest int. */
    void between(String name, int first, int dueFirst, int last, int dueLast, Call call) {
        from(name, first, dueFirst, call);
        upTo(name, last, dueLast, call);
    }

    /** The first one that is allowed; BAD below it. */
    void from(String name, int first, int due, Call call) {
        answers(name, first, due, call);
        answers(name, first - 1, KnownTurns.BAD, call);
        answers(name, Integer.MIN_VALUE, KnownTurns.BAD, call);
    }

    /** The last one that is allowed; BAD above it. */
    void upTo(String name, int last, int due, Call call) {
        answers(name, last, due, call);
        answers(name, last + 1, KnownTurns.BAD, call);
        answers(name, Integer.MAX_VALUE, KnownTurns.BAD, call);
    }

    void answers(String name, int argument, int due, Call call) {
        check.due(name.replace("#", String.valueOf(argument)), call.of(maker.get(), argument), due);
    }
}
