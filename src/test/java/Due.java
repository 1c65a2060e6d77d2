import java.lang.reflect.InvocationTargetException;
import java.lang.reflect.Method;
import java.util.Arrays;
import java.util.Comparator;

/** Runs tests, and counts and prints the answers that are not as due. */
final class Due {
    /** What the names of test methods begin with; the promise's number, of two digits, follows. */
    static final String TEST = "promise";

    static final Class<? extends RuntimeException> ARGUMENT = IllegalArgumentException.class;
    static final Class<? extends RuntimeException> ELEMENT = java.util.NoSuchElementException.class;
    static final Class<? extends RuntimeException> STATE = IllegalStateException.class;

    private final String file;
    private String test;
    private int tests;
    private int answers;
    private int wrong;

    Due(String file) {
        this.file = file;
        test = file;
    }

    /** Runs every test method of a class, so that none is forgotten in a list, and ends. */
    void runAll(Class<?> all) {
        Method[] methods = all.getDeclaredMethods();
        Arrays.sort(methods, Comparator.comparing(Method::getName));
        for (Method method : methods) {
            if (method.getName().startsWith(TEST) && method.getParameterCount() == 0) {
                run(method);
            }
        }
        end();
    }

    private void run(Method method) {
        test = file + "." + method.getName();
        tests++;
        int before = answers;
        try {
            method.setAccessible(true);
            method.invoke(null);
        } catch (InvocationTargetException e) {
            tell("threw " + e.getCause());
        } catch (IllegalAccessException e) {
            tell("could not be run: " + e);
        }
        if (answers == before) {
            tell("asked for nothing");
        }
    }

    void equal(String what, long got, long want) {
        answers++;
        if (got != want) {
            tell(what + " answered " + got + ", due is " + want);
        }
    }

    void equal(String what, boolean got, boolean want) {
        equal(what, got ? 1 : 0, want ? 1 : 0);
    }

    void equal(String what, String got, String want) {
        answers++;
        if (!got.equals(want)) {
            tell(what + " gave\n  " + got + "\ndue is\n  " + want);
        }
    }

    void fails(String what, Class<? extends RuntimeException> want, Runnable call) {
        answers++;
        try {
            call.run();
        } catch (RuntimeException e) {
            if (e.getClass() != want) {
                tell(what + " threw " + e + ", due is " + want.getSimpleName());
            }
            return;
        }
        tell(what + " threw nothing, due is " + want.getSimpleName());
    }

    int wrong() {
        return wrong;
    }

    void end() {
        System.out.println(file + ": " + (tests > 0 ? tests + " tests, " : "") + answers + " answers, "
                + wrong + " not as due");
        if (wrong != 0 || answers == 0) {
            System.exit(1);
        }
    }

    private void tell(String text) {
        wrong++;
        if (wrong <= 50) {
            System.out.println(test + ": " + text);
        }
    }
}
