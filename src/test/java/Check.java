import java.lang.reflect.InvocationTargetException;
import java.lang.reflect.Method;
import java.lang.reflect.Modifier;

/** What the tests share: answers that are due, and exceptions that are due. */
final class Check {
    private static int wrong;
    private static int checks;
    private static String within = "";

    private Check() {
    }

    /** Runs each test of a class: its static methods without arguments. None can be forgotten so. */
    static void all(Class<?> tests) throws IllegalAccessException {
        for (Method method : tests.getDeclaredMethods()) {
            boolean isTest = Modifier.isStatic(method.getModifiers()) && method.getParameterCount() == 0
                    && method.getReturnType() == void.class && !method.isSynthetic();
            if (isTest) {
                run(method);
            }
        }
        within = "";
        finish(tests.getSimpleName());
    }

    private static void run(Method test) throws IllegalAccessException {
        within = test.getName() + ": ";
        int before = checks;
        try {
            test.invoke(null);
        } catch (InvocationTargetException e) {
            tell("threw " + e.getCause());
        }
        if (checks == before) {
            tell("checks nothing");
        }
    }

    static void is(String what, long due, long got) {
        checks++;
        if (due != got) {
            tell(what + " answered " + got + ", due is " + due);
        }
    }

    static void is(String what, boolean due, boolean got) {
        is(what, due ? 1 : 0, got ? 1 : 0);
    }

    static void same(String what, Object due, Object got) {
        checks++;
        if (!due.equals(got)) {
            tell(what + " answered " + got + ", due is " + due);
        }
    }

    static void takes(String what, Runnable call) {
        checks++;
        try {
            call.run();
        } catch (RuntimeException e) {
            tell(what + " threw " + e.getClass().getName() + ", due is nothing");
        }
    }

    /** The class must be just the one that is due: what the machine throws is a class below it. */
    static void refuses(Class<? extends RuntimeException> due, String what, Runnable call) {
        checks++;
        Class<?> got = null;
        try {
            call.run();
        } catch (RuntimeException e) {
            got = e.getClass();
        }
        if (got != due) {
            tell(what + " threw " + (got == null ? "nothing" : got.getName()) + ", due is " + due.getName());
        }
    }

    static void index(String what, Runnable call) {
        refuses(IndexOutOfBoundsException.class, what, call);
    }

    static void argument(String what, Runnable call) {
        refuses(IllegalArgumentException.class, what, call);
    }

    static void state(String what, Runnable call) {
        refuses(IllegalStateException.class, what, call);
    }

    static void tell(String what) {
        wrong++;
        System.out.println("wrong: " + within + what);
    }

    static void finish(String test) {
        System.out.println(test + ": " + checks + " checks, " + wrong + " wrong");
        if (wrong != 0 || checks == 0) {
            System.exit(1);
        }
    }
}
