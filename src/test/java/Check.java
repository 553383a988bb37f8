/** What the tests share: counts the answers that are not as due and ends with exit code 1 if any. */
final class Check {
    /** A call whose answer or exception is looked at. */
    interface Call {
        long answer();
    }

    private static final int MOST_PRINTED = 20;

    private static int looks = 0;
    private static int wrong = 0;

    private Check() {}

    static void due(String call, long want, Call made) {
        looks++;
        try {
            long got = made.answer();
            if (got != want) {
                tell(call, "answered " + got, String.valueOf(want));
            }
        } catch (RuntimeException thrown) {
            tell(call, "threw " + thrown, String.valueOf(want));
        }
    }

    /** The class must be just the one that is due, not one below it. */
    static void dueThrow(String call, Class<? extends RuntimeException> want, Call made) {
        looks++;
        try {
            tell(call, "answered " + made.answer(), want.getName());
        } catch (RuntimeException thrown) {
            if (thrown.getClass() != want) {
                tell(call, "threw " + thrown, want.getName());
            }
        }
    }

    static void dueIllegalArgument(String call, Call made) {
        dueThrow(call, IllegalArgumentException.class, made);
    }

    static void dueIndexOutOfBounds(String call, Call made) {
        dueThrow(call, IndexOutOfBoundsException.class, made);
    }

    static void dueUnsupported(String call, Call made) {
        dueThrow(call, UnsupportedOperationException.class, made);
    }

    static void dueTrue(String what, boolean holds) {
        looks++;
        if (!holds) {
            tell(what, "does not hold", "that it holds");
        }
    }

    static void end() {
        System.out.println(wrong == 0 ? looks + " answers are as due" : wrong + " of " + looks + " answers are not as due");
        if (wrong != 0) {
            System.exit(1);
        }
    }

    private static void tell(String call, String got, String want) {
        wrong++;
        if (wrong <= MOST_PRINTED) {
            System.out.println(call + " " + got + ", due is " + want);
        }
    }
}
