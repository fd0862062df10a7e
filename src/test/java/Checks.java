import java.nio.charset.StandardCharsets;

/** What the tests share: counting answers that are not due, and telling texts to an object. */
final class Checks {
    private int made = 0;
    private int wrong = 0;

    void due(String call, long got, long want) {
        made++;
        if (got != want) {
            wrong++;
            if (wrong <= 50) {
                System.out.println(call + " answered " + got + ", due is " + want);
            }
        }
    }

    boolean allDue() {
        return wrong == 0;
    }

    void end(String name) {
        System.out.println(name + ": " + made + " answers, " + wrong + " not as due");
        if (wrong != 0) {
            System.exit(1);
        }
    }

    /** Up to eight bytes as the number by which write takes them. */
    static long number(byte[] bytes, int from, int n) {
        long v = 0;
        for (int k = 0; k < n; k++) {
            v = v << 8 | bytes[from + k] & 255;
        }
        return v;
    }

    static void tell(ThrownHome x, String text) {
        byte[] bytes = text.getBytes(StandardCharsets.ISO_8859_1);
        for (int from = 0; from < bytes.length; from += 8) {
            int n = Math.min(8, bytes.length - from);
            x.write(n, number(bytes, from, n));
        }
    }

    static ThrownHome laid(String text) {
        ThrownHome x = new ThrownHome();
        tell(x, text);
        if (x.lay() < 1) {
            System.out.println("a test lays a text that can't be laid: " + text);
            System.exit(1);
        }
        return x;
    }
}
