import java.util.function.Supplier;

/** Compares answers with those that are due; an exception is an answer too. */
final class Due {
    static final String IAE = "throws.IllegalArgumentException";
    static final String ISE = "throws.IllegalStateException";
    static final String IOOBE = "throws.IndexOutOfBoundsException";
    static final String UOE = "throws.UnsupportedOperationException";
    static final String DONE = "done";

    private static int wrong = 0;
    private static int compared = 0;

    private Due() {
    }

    static String answer(Supplier<Object> call) {
        try {
            return String.valueOf(call.get());
        } catch (RuntimeException e) {
            return "throws." + e.getClass().getSimpleName() + (isThrownByTheClass(e) ? "" : " out of the library");
        }
    }

    /** LANGUAGE.md, rule 7: only a throw statement throws, so a list's own exception is not the one that is due. */
    private static boolean isThrownByTheClass(RuntimeException e) {
        StackTraceElement[] trace = e.getStackTrace();
        return trace.length > 0 && trace[0].getClassName().startsWith("MeldHost");
    }

    static String answer(Runnable call) {
        return answer(() -> {
            call.run();
            return DONE;
        });
    }

    static void due(String where, Object want, String got) {
        compared++;
        if (!String.valueOf(want).equals(got)) {
            wrong++;
            System.out.println(where + " answered " + got + ", due is " + want);
        }
    }

    static void end() {
        System.out.println(compared + " answers compared, " + wrong + " not as due");
        if (wrong != 0) {
            System.exit(1);
        }
    }
}
