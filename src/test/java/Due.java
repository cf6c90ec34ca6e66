import java.util.function.Predicate;
import java.util.function.ToIntFunction;

/** Counts and prints the answers that are not the ones that are due. */
final class Due {
    private int wrong;
    private int asked;

    void is(String call, long got, long want) {
        asked++;
        if (got != want) {
            wrong++;
            System.out.println(call + " answered " + got + ", due is " + want);
        }
    }

    void is(String call, boolean got, boolean want) {
        is(call, got ? 1L : 0L, want ? 1L : 0L);
    }

    void is(String call, String got, String want) {
        asked++;
        if (!got.equals(want)) {
            wrong++;
            System.out.println(call + " answered \"" + got + "\", due is \"" + want + "\"");
        }
    }

    /** The answer of a call, and that all is as it was behind it. */
    void idle(String call, Made made, ToIntFunction<TalkDown> asks, int want) {
        is(call, asks.applyAsInt(made.object()), want);
        is(call + " changes nothing", made.and(asks::applyAsInt).all(), made.all());
    }

    /** A call that is answered false, and that all is as it was behind it. */
    void refused(String call, Made made, Predicate<TalkDown> asks) {
        idle(call, made, x -> asks.test(x) ? 1 : 0, 0);
    }

    /** A call that is answered true, and all as it's WRITTEN behind it. */
    void taken(String call, Made made, Predicate<TalkDown> asks, String written) {
        is(call, asks.test(made.object()), true);
        is(call + " is written", made.and(asks::test).written(), written);
    }

    void end() {
        System.out.println(wrong == 0 ? asked + " answers are as due" : wrong + " answers are not as due");
        if (wrong != 0) {
            System.exit(1);
        }
    }
}
