import java.lang.reflect.InvocationTargetException;
import java.lang.reflect.Method;

/** Counts what is not as due, and ends a test. */
final class Check {
    private static final int MOST_PRINTED = 40;
    private static int looked = 0;
    private static int wrong = 0;

    private Check() {
    }

    /** A call whose answer, or exception, is looked at. */
    interface Call {
        Object answer();
    }

    static void same(String what, Object got, Object due) {
        looked++;
        if (due == null ? got != null : !due.equals(got)) {
            wrong++;
            if (wrong <= MOST_PRINTED) {
                System.out.println(what + " answered " + got + ", due is " + due);
            }
        }
    }

    static void so(String what, boolean got) {
        same(what, got, true);
    }

    static void refusesCell(String what, Call call) {
        same(what, told(call), "throws.IndexOutOfBoundsException");
    }

    static void refusesArgument(String what, Call call) {
        same(what, told(call), "throws.IllegalArgumentException");
    }

    static void refusesState(String what, Call call) {
        same(what, told(call), "throws.IllegalStateException");
    }

    /** The answer, or the name of what was thrown (exactly that class, no subclass). */
    static Object told(Call call) {
        try {
            return call.answer();
        } catch (RuntimeException thrown) {
            return "throws." + thrown.getClass().getSimpleName();
        }
    }

    /** The same of a method that is called by what the machine knows of it. */
    static Object told(Method method, Object object, Object[] values) {
        try {
            return method.invoke(object, values);
        } catch (InvocationTargetException thrown) {
            return "throws." + thrown.getCause().getClass().getSimpleName();
        } catch (IllegalAccessException thrown) {
            throw new IllegalStateException(thrown);
        }
    }

    static void end(String test) {
        System.out.println(test + ": " + looked + " looked at, " + wrong + " not as due");
        if (wrong != 0 || looked == 0) {
            System.exit(1);
        }
    }
}
