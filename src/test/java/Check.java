/** Counts the answers that are not as due, for the tests beside it. */
final class Check {
    /** A call of the object under test; a boolean answer counts 1 or 0, no answer 0. */
    interface Call {
        long answer();
    }

    static final Class<? extends RuntimeException> INDEX = IndexOutOfBoundsException.class;
    static final Class<? extends RuntimeException> STATE = IllegalStateException.class;
    static final Class<? extends RuntimeException> ARGUMENT = IllegalArgumentException.class;
    static final Class<? extends RuntimeException> UNSUPPORTED = UnsupportedOperationException.class;

    private static final int MOST_PRINTED = 50;
    private int wrong;

    void due(String what, long got, long want) {
        if (got != want) {
            fault(what + " answered " + got + ", due is " + want);
        }
    }

    void due(String what, String got, String want) {
        if (!got.equals(want)) {
            fault(what + " answered " + got + ", due is " + want);
        }
    }

    void dueThrow(String what, Class<? extends RuntimeException> want, Call call) {
        due(what, answerOf(call), "throws " + want.getName());
    }

    void fault(String text) {
        wrong++;
        if (wrong <= MOST_PRINTED) {
            System.out.println(text);
        }
    }

    /** What a call answers, or the very class that it throws, as a text. */
    static String answerOf(Call call) {
        try {
            return Long.toString(call.answer());
        } catch (RuntimeException e) {
            return "throws " + e.getClass().getName();
        }
    }

    void end(String name) {
        System.out.println(name + ": " + (wrong == 0 ? "all answers are as due" : wrong + " answers are not as due"));
        if (wrong != 0) {
            System.exit(1);
        }
    }
}
