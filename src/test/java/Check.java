/** Counts the answers that are not as due and prints each of them. */
final class Check {
    interface Call {
        Object answer();
    }

    private static int wrong = 0;
    private static String heading = "";

    private Check() {
    }

    /** The answer, or throws. and the name of what was thrown. */
    static String told(Call call) {
        try {
            return String.valueOf(call.answer());
        } catch (RuntimeException thrown) {
            return nameOf(thrown);
        }
    }

    /** What the machine or the library throws is told apart from what the program throws by itself. */
    static String nameOf(Throwable thrown) {
        StackTraceElement[] trace = thrown.getStackTrace();
        boolean own = trace.length > 0 && !trace[0].getClassName().contains(".");
        return (own ? "throws." : "machine.") + thrown.getClass().getSimpleName();
    }

    /** What stands ahead of each wrong answer that is printed from now on. */
    static void under(String words) {
        heading = words;
    }

    static void due(String what, Object want, Call call) {
        String got = told(call);
        if (!got.equals(String.valueOf(want))) {
            wrong++;
            System.out.println(heading + what + " answered " + got + ", due is " + want);
        }
    }

    static void noPlace(String what, Call call) {
        due(what, "throws.IndexOutOfBoundsException", call);
    }

    static void noValue(String what, Call call) {
        due(what, "throws.IllegalArgumentException", call);
    }

    static void noState(String what, Call call) {
        due(what, "throws.IllegalStateException", call);
    }

    static void end() {
        System.out.println(wrong == 0 ? "all answers are as due" : wrong + " answers are not as due");
        if (wrong != 0) {
            System.exit(1);
        }
    }
}
