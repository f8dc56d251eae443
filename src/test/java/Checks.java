import java.util.NoSuchElementException;
import java.util.Objects;

/** Counts the answers that are not as due; a test ends with exit code 1 if there was one. */
final class Checks {
    static final Class<IllegalArgumentException> ARGUMENT = IllegalArgumentException.class;
    static final Class<IllegalStateException> STATE = IllegalStateException.class;
    static final Class<IndexOutOfBoundsException> INDEX = IndexOutOfBoundsException.class;
    static final Class<ArithmeticException> ARITHMETIC = ArithmeticException.class;
    static final Class<NoSuchElementException> NO_SUCH = NoSuchElementException.class;
    static final Class<UnsupportedOperationException> UNSUPPORTED =
            UnsupportedOperationException.class;

    interface Call {
        Object answer();
    }

    private static int made = 0;
    private static int wrong = 0;

    private Checks() {
    }

    static void due(String what, Object want, Call call) {
        String got = told(call);
        String due = String.valueOf(want);
        made++;
        if (!Objects.equals(due, got)) {
            wrong++;
            System.out.println(what + " answered " + got + ", due is " + due);
        }
    }

    static void dueThrow(String what, Class<? extends RuntimeException> want, Call call) {
        due(what, "throws." + want.getSimpleName(), call);
    }

    static String told(Call call) {
        try {
            return String.valueOf(call.answer());
        } catch (RuntimeException e) {
            return (isThrownByCode(e) ? "throws." : "the machine or the library throws ")
                    + e.getClass().getSimpleName();
        }
    }

    /** The machine and the library throw some of the document's exceptions too; that is no answer. */
    private static boolean isThrownByCode(RuntimeException e) {
        StackTraceElement[] trace = e.getStackTrace();
        if (trace.length == 0 || "/ by zero".equals(e.getMessage())) {
            return false;
        }
        String thrower = trace[0].getClassName();
        return thrower.startsWith("Quizspool") || thrower.equals("Model");
    }

    static int made() {
        return made;
    }

    static void finish(String name) {
        System.out.println(name + ": " + made + " checks, " + wrong + " wrong");
        if (wrong != 0) {
            System.exit(1);
        }
    }
}
