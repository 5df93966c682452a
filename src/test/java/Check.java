import java.lang.reflect.InvocationTargetException;
import java.lang.reflect.Method;
import java.lang.reflect.Modifier;
import java.util.Arrays;
import java.util.Comparator;

/** Runs the tests of a class: its static void methods without arguments, each told as 'PASS name' or 'FAIL name'. */
final class Check {
    private static final int MOST_TOLD = 8;
    private static int wrong;
    private static boolean anyFailed;

    private Check() {
    }

    static void due(String call, long want, long got) {
        if (want != got) {
            wrong("  " + call + " answered " + got + ", due is " + want);
        }
    }

    static void dueText(String call, String want, String got) {
        if (!want.equals(got)) {
            wrong("  " + call + " answered '" + got + "', due is '" + want + "'");
        }
    }

    static void wrong(String what) {
        wrong++;
        if (wrong <= MOST_TOLD) {
            System.out.println(what);
        }
    }

    static void runAll(Class<?> tests) {
        Method[] methods = tests.getDeclaredMethods();
        Arrays.sort(methods, Comparator.comparing(Method::getName));
        for (Method method : methods) {
            if (isTest(method)) {
                run(tests.getName() + "." + method.getName(), method);
            }
        }
    }

    private static boolean isTest(Method method) {
        return method.getParameterCount() == 0 && method.getReturnType() == void.class
            && Modifier.isStatic(method.getModifiers()) && !method.isSynthetic();
    }

    private static void run(String name, Method method) {
        wrong = 0;
        try {
            method.setAccessible(true);
            method.invoke(null);
        } catch (InvocationTargetException e) {
            wrong("  threw " + e.getCause());
            e.getCause().printStackTrace(System.out);
        } catch (IllegalAccessException e) {
            wrong("  can't be run: " + e);
        }
        anyFailed |= wrong != 0;
        System.out.println((wrong == 0 ? "PASS " : "FAIL ") + name);
    }

    static boolean allPassed() {
        return !anyFailed;
    }
}
