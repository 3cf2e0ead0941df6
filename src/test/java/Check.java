/** What a test needs to say that an answer is not the one that is due. */
final class Check {
    /** A call of the class under test. */
    interface Call {
        int run();
    }

    private static int wrong = 0;
    private static int asked = 0;

    private Check() {
    }

    static void due(String what, long got, long want) {
        asked++;
        if (got != want) {
            wrong++;
            System.out.println(what + " answered " + got + ", due is " + want);
        }
    }

    static void due(String what, String got, String want) {
        asked++;
        if (!got.equals(want)) {
            wrong++;
            System.out.println(what + " answered " + got + ", due is " + want);
        }
    }

    /** The answer of a call as a text: its number, or throws. and the simple name of what it throws. */
    static String answer(Call call) {
        try {
            return Integer.toString(call.run());
        } catch (RuntimeException e) {
            return "throws." + e.getClass().getSimpleName();
        }
    }

    static void noSuchElement(String what, Call call) {
        due(what, answer(call), "throws.NoSuchElementException");
    }

    static void illegalArgument(String what, Call call) {
        due(what, answer(call), "throws.IllegalArgumentException");
    }

    static void illegalState(String what, Call call) {
        due(what, answer(call), "throws.IllegalStateException");
    }

    static void unsupported(String what, Call call) {
        due(what, answer(call), "throws.UnsupportedOperationException");
    }

    static void outOfBounds(String what, Call call) {
        due(what, answer(call), "throws.IndexOutOfBoundsException");
    }

    static void finish() {
        System.out.println(asked + " answers looked at, " + wrong + " of them wrong");
        if (wrong != 0 || asked == 0) {
            System.exit(1);
        }
    }
}
