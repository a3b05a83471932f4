/** Counts the answers that are not as due; every test's main method ends with end(). */
final class Check {
    interface Call {
        long run();
    }

    static final String OUT_OF_BOUNDS = "IndexOutOfBoundsException";
    static final String ARGUMENT = "IllegalArgumentException";
    static final String STATE = "IllegalStateException";
    static final String NO_ELEMENT = "NoSuchElementException";

    private static int wrong = 0;

    private Check() {
    }

    /** The answer of a call as a text, or throws. and the exact name of what it throws. */
    static String answer(Call call) {
        try {
            return Long.toString(call.run());
        } catch (RuntimeException e) {
            return "throws." + e.getClass().getSimpleName();
        }
    }

    static void due(String what, long want, Call call) {
        same(what, answer(call), Long.toString(want));
    }

    static void refused(String what, String exception, Call call) {
        same(what, answer(call), "throws." + exception);
    }

    static void same(String what, String got, String want) {
        if (!got.equals(want)) {
            wrong++;
            System.out.println(what + " answered " + got + ", due is " + want);
        }
    }

    static void end() {
        if (wrong != 0) {
            System.out.println(wrong + " answers are not as due");
            System.exit(1);
        }
    }
}
