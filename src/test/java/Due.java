import java.util.function.LongSupplier;

/** Counts the calls whose answer is not the one that is due, and ends a test with exit code 1 if there was one. */
final class Due {
    private final String test;
    private int calls = 0;
    private int wrong = 0;

    Due(String test) {
        this.test = test;
    }

    void is(long want, long got, String call) {
        calls++;
        if (got != want) {
            wrong++;
            System.out.println(test + ": " + call + " answered " + got + ", due is " + want);
        }
    }

    void holds(boolean it, String what) {
        is(1, it ? 1 : 0, what);
    }

    /** As is, but what the machine throws counts as a wrong answer. */
    void answers(long want, String call, LongSupplier answer) {
        try {
            is(want, answer.getAsLong(), call);
        } catch (RuntimeException e) {
            calls++;
            wrong++;
            System.out.println(test + ": " + call + " threw " + e + ", due is " + want);
        }
    }

    void end() {
        System.out.println(test + ": " + calls + " answers looked at, " + wrong + " wrong");
        if (wrong != 0) {
            System.exit(1);
        }
    }
}
