import java.lang.reflect.InvocationTargetException;
import java.lang.reflect.Method;
import java.lang.reflect.Modifier;
import java.nio.charset.StandardCharsets;
import java.util.Arrays;
import java.util.Comparator;
import java.util.List;

/** What the tests share: counting answers that are not due, running tests by their names, telling texts to an object. */
final class Checks {
    private int made = 0;
    private int wrong = 0;

    void due(String call, long got, long want) {
        made++;
        if (got != want) {
            wrong++;
            if (wrong <= 50) {
                System.out.println(call + " answered " + got + ", due is " + want);
            }
        }
    }

    boolean allDue() {
        return wrong == 0;
    }

    void end(String name) {
        System.out.println(name + ": " + made + " answers, " + wrong + " not as due");
        if (wrong != 0) {
            System.exit(1);
        }
    }

    /** Runs every test of a class, so that none is forgotten: its methods whose names begin with "promise" or "term". */
    void runAll(Class<?> tests) {
        List<Method> found = Arrays.stream(tests.getDeclaredMethods())
            .filter(m -> m.getName().matches("(promise\\d\\d|term)_\\w+") && m.getParameterCount() == 0)
            .filter(m -> Modifier.isStatic(m.getModifiers()))
            .sorted(Comparator.comparing(Method::getName)).toList();
        int failed = 0;
        for (Method test : found) {
            int wrongBefore = wrong;
            int madeBefore = made;
            run(test);
            if (wrong > wrongBefore || made == madeBefore) {
                failed++;
                System.out.println("FAILED: " + tests.getName() + " " + test.getName());
            }
        }
        System.out.println(tests.getName() + ": " + found.size() + " tests, " + failed + " failed");
        due("tests are found", found.isEmpty() ? 0 : 1, 1);
        due("tests that failed", failed, 0);
        end(tests.getName());
    }

    private void run(Method test) {
        try {
            test.setAccessible(true);
            test.invoke(null);
        } catch (InvocationTargetException | IllegalAccessException e) {
            wrong++;
            System.out.println(test.getName() + " was cut off: " + e + ", " + e.getCause());
        }
    }

    /** A text without a fault, told to a new object. */
    void so(String text) {
        due("fault of " + text, told(text).fault(), -4);
    }

    /** A text with its first fault at a place, which can't be laid, and by which nothing laid becomes another. */
    void notSo(String text, int place) {
        due("fault of " + text, told(text).fault(), place);
        Whole.refused(this, "lay of " + text, () -> told(text), ThrownHome::lay, -2);
    }

    /** Up to eight bytes as the number by which write takes them. */
    static long number(byte[] bytes, int from, int n) {
        long v = 0;
        for (int k = 0; k < n; k++) {
            v = v << 8 | bytes[from + k] & 255;
        }
        return v;
    }

    static void tell(ThrownHome x, String text) {
        byte[] bytes = text.getBytes(StandardCharsets.ISO_8859_1);
        for (int from = 0; from < bytes.length; from += 8) {
            int n = Math.min(8, bytes.length - from);
            x.write(n, number(bytes, from, n));
        }
    }

    static ThrownHome told(String text) {
        ThrownHome x = new ThrownHome();
        tell(x, text);
        return x;
    }

    static ThrownHome laid(String text) {
        ThrownHome x = told(text);
        if (x.lay() < 1) {
            System.out.println("a test lays a text that can't be laid: " + text);
            System.exit(1);
        }
        return x;
    }
}
