/** Counts and prints the answers that are not as due. */
final class Check {
    interface Call {
        long answer();
    }

    interface CallOf {
        long answer(int argument);
    }

    static final String ARGUMENT = "IllegalArgumentException";
    static final String INDEX = "IndexOutOfBoundsException";
    static final String STATE = "IllegalStateException";

    private static int wrong = 0;

    private Check() {
    }

    static void same(String call, long got, long due) {
        if (got != due) {
            report(call + " answered " + got + ", due is " + due);
        }
    }

    static void same(String call, boolean got, boolean due) {
        if (got != due) {
            report(call + " answered " + got + ", due is " + due);
        }
    }

    static void same(String call, String got, String due) {
        if (!got.equals(due)) {
            report(call + " answered " + got + ", due is " + due);
        }
    }

    static void refused(String name, String call, Call made) {
        String got = told(made);
        if (!got.equals("throws." + name)) {
            report(call + " answered " + got + ", due is throws." + name);
        }
    }

    /**
     * The least and the greatest argument are taken; the next ones on either side, and the ends of int, are
     * refused by the exception of that name.
     */
    static void range(String name, String call, int least, int most, CallOf made) {
        taken(call, least, made);
        taken(call, most, made);
        if (least > Integer.MIN_VALUE) {
            refused(name, call + " of " + (least - 1), () -> made.answer(least - 1));
            refused(name, call + " of the least int", () -> made.answer(Integer.MIN_VALUE));
        }
        if (most < Integer.MAX_VALUE) {
            refused(name, call + " of " + (most + 1), () -> made.answer(most + 1));
            refused(name, call + " of the greatest int", () -> made.answer(Integer.MAX_VALUE));
        }
    }

    private static void taken(String call, int argument, CallOf made) {
        String got = told(() -> made.answer(argument));
        if (got.startsWith("throws.")) {
            report(call + " of " + argument + " answered " + got + ", due is an answer");
        }
    }

    /** The answer of a call as a text; the very class of what it throws, behind "throws.". */
    static String told(Call made) {
        try {
            return Long.toString(made.answer());
        } catch (RuntimeException e) {
            return "throws." + e.getClass().getSimpleName();
        }
    }

    static void report(String text) {
        wrong++;
        if (wrong <= 50) {
            System.out.println(text);
        }
    }

    static boolean clean() {
        return wrong == 0;
    }

    static void end(String test) {
        System.out.println(test + ": " + (wrong == 0 ? "all answers are as due" : wrong + " answers are not as due"));
        if (wrong != 0) {
            System.exit(1);
        }
    }
}
