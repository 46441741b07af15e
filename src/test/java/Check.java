import java.util.List;

/** Counts the answers of one test class that are not as due. */
final class Check {
    static final Class<?> OUT_OF_BOUNDS = IndexOutOfBoundsException.class;
    static final Class<?> ARGUMENT = IllegalArgumentException.class;
    static final Class<?> STATE = IllegalStateException.class;

    private static int done = 0;
    private static int wrong = 0;
    private static String subject = "";

    interface Call {
        int answer();
    }

    private Check() {
    }

    /** What the next checks are about; it is told ahead of each that is wrong. */
    static void about(String what) {
        subject = what + ": ";
    }

    static int done() {
        return done;
    }

    static void due(String what, int want, Call call) {
        done++;
        try {
            int got = call.answer();
            if (got != want) {
                tellWrong(what + " answered " + got + ", due is " + want);
            }
        } catch (RuntimeException e) {
            tellWrong(what + " threw " + e + ", due is " + want);
        }
    }

    static void refuses(String what, Class<?> want, Call call) {
        done++;
        try {
            int got = call.answer();
            tellWrong(what + " answered " + got + ", due is " + want.getSimpleName());
        } catch (RuntimeException e) {
            // A class below it, such as the machine's own ArrayIndexOutOfBoundsException, is not due.
            if (e.getClass() != want) {
                tellWrong(what + " threw " + e + ", due is " + want.getSimpleName());
            } else if (!isThrownByTheClass(e)) {
                tellWrong(what + " let the library throw " + e);
            }
        }
    }

    private static boolean isThrownByTheClass(RuntimeException e) {
        StackTraceElement[] trace = e.getStackTrace();
        return trace.length > 0 && trace[0].getClassName().startsWith("RightsCounter");
    }

    static void holds(String what, boolean is) {
        done++;
        if (!is) {
            tellWrong(what);
        }
    }

    /** Both lists are the same; else the first line that is not is told. */
    static void same(String what, List<String> want, List<String> got) {
        done++;
        for (int line = 0; line < Math.max(want.size(), got.size()); line++) {
            String due = line < want.size() ? want.get(line) : "nothing";
            String is = line < got.size() ? got.get(line) : "nothing";
            if (!due.equals(is)) {
                tellWrong(what + ": " + is + ", due is " + due);
                return;
            }
        }
    }

    private static void tellWrong(String line) {
        wrong++;
        System.out.println(subject + line);
    }

    static void end() {
        if (done == 0 || wrong > 0) {
            System.out.println(wrong + " of " + done + " checks are wrong");
            System.exit(1);
        }
    }
}
