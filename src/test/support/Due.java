/** Compares answers of calls with those that are due, and remembers whether one was wrong. */
final class Due {
    interface Call {
        long answer();
    }

    private static int wrong = 0;
    private static int calls = 0;

    private Due() {
    }

    static void answer(String what, long want, Call call) {
        compare(what, Long.toString(want), outcome(call));
    }

    static void yes(String what, boolean got) {
        compare(what, "true", Boolean.toString(got));
    }

    static void no(String what, boolean got) {
        compare(what, "false", Boolean.toString(got));
    }

    static void same(String what, long want, long got) {
        compare(what, Long.toString(want), Long.toString(got));
    }

    static void noState(String what, Call call) {
        compare(what, "throws.IllegalStateException", outcome(call));
    }

    static void noIndex(String what, Call call) {
        compare(what, "throws.IndexOutOfBoundsException", outcome(call));
    }

    static void noArgument(String what, Call call) {
        compare(what, "throws.IllegalArgumentException", outcome(call));
    }

    static void compare(String what, String want, String got) {
        calls++;
        if (!want.equals(got)) {
            wrong++;
            System.out.println(what + " answered " + got + ", due is " + want);
        }
    }

    /** The answer as text; an exception by its exact class, so that one the machine throws is never taken for ours. */
    static String outcome(Call call) {
        try {
            return Long.toString(call.answer());
        } catch (RuntimeException e) {
            return "throws." + e.getClass().getSimpleName();
        }
    }

    static long bit(boolean b) {
        return b ? 1 : 0;
    }

    static void end() {
        System.out.println(calls + " answers looked at, " + wrong + " wrong");
        if (wrong > 0) {
            System.exit(1);
        }
    }
}
