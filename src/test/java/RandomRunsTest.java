import java.nio.charset.StandardCharsets;
import java.util.Random;

/** Long runs of drawn calls, the same ones every time, on the program and on the model. */
public final class RandomRunsTest {
    private static final int RUNS = 1500;
    private static final int CALLS = 512;

    private final Random draws;
    private final Checks checks;
    private final String name;
    private final ThrownHome x = new ThrownHome();
    private final Model m = new Model();
    private int calls = 0;

    private RandomRunsTest(int run, Checks checks) {
        draws = new Random(run);
        name = "run " + run + ": ";
        this.checks = checks;
    }

    public static void main(String[] args) {
        Checks checks = new Checks();
        for (int run = 0; run < RUNS && checks.allDue(); run++) {
            new RandomRunsTest(run, checks).go();
        }
        checks.end("RandomRunsTest");
    }

    private void go() {
        while (calls < CALLS) {
            if (draws.nextInt(40) == 0 || calls == 0) {
                tellText();
            } else {
                call();
            }
        }
    }

    /** Mostly from 0 to high, now and then outside. */
    private int number(int high) {
        switch (draws.nextInt(40)) {
            case 0: return -1;
            case 1: return high + 1;
            case 2: return draws.nextInt();
            default: return draws.nextInt(high + 1);
        }
    }

    private void due(String call, long got, long want) {
        calls++;
        checks.due(name + calls + " " + call, got, want);
    }

    private void tellText() {
        if (draws.nextInt(8) != 0) {
            due("wipe", x.wipe(), m.wipe());
        }
        byte[] bytes = text().getBytes(StandardCharsets.ISO_8859_1);
        for (int at = 0; at < bytes.length; at += 8) {
            int n = Math.min(8, bytes.length - at);
            long v = Checks.number(bytes, at, n);
            v |= n < 8 ? draws.nextLong() << (8 * n) : 0;
            due("write(" + n + ", " + v + ")", x.write(n, v), m.write(n, v));
        }
        due("fault", x.fault(), m.fault());
        due("lay", x.lay(), m.lay());
    }

    private String text() {
        StringBuilder text = new StringBuilder();
        int throwsTold = draws.nextInt(12) == 0 ? draws.nextInt(10) : 1 + draws.nextInt(7);
        int netsTold = draws.nextInt(12) == 0 ? 6 : draws.nextInt(6);
        // Close together they meet more often.
        boolean close = draws.nextBoolean();
        for (int k = 0; k < throwsTold + netsTold + 2; k++) {
            if (k < throwsTold) {
                item(text, 't', upTo(close ? 8 : 40), upTo(close ? 1 : 23), 1 + upTo(5), close && draws.nextInt(3) > 0 ? 2 : upTo(3));
            } else if (k < throwsTold + netsTold) {
                item(text, 'n', upTo(23), upTo(3), upTo(draws.nextBoolean() ? 10 : 99), upTo(99));
            } else if (draws.nextInt(3) > 0) {
                item(text, draws.nextBoolean() ? 'p' : 'r', upTo(23), 1 + upTo(draws.nextBoolean() ? 20 : 48));
            }
        }
        if (draws.nextInt(6) == 0 && text.length() > 0) {
            spoil(text);
        }
        return text.toString();
    }

    private int upTo(int high) {
        return draws.nextInt(high + 1);
    }

    private void item(StringBuilder text, char letter, int... numbers) {
        StringBuilder item = new StringBuilder();
        for (int number : numbers) {
            item.append(item.length() == 0 ? letter : ',');
            item.append(draws.nextInt(5) == 0 && number < 10 ? "0" : "").append(number);
        }
        int at = draws.nextBoolean() ? 0 : text.length();
        text.insert(at, item.append(';'));
    }

    private void spoil(StringBuilder text) {
        int at = draws.nextInt(text.length());
        String signs = "0123456789,;trnp x\u00ff";
        char sign = signs.charAt(draws.nextInt(signs.length()));
        switch (draws.nextInt(3)) {
            case 0: text.setCharAt(at, sign); break;
            case 1: text.insert(at, sign); break;
            default: text.deleteCharAt(at);
        }
    }

    private void call() {
        int i = number(Math.max(0, m.count(0) - 1));
        int a = number(23), b = number(1), t = number(99), day = number(40), v = number(6), what;
        switch (draws.nextInt(27)) {
            case 0: what = number(8); due("load(" + i + ", " + what + ")", x.load(i, what), m.load(i, what)); break;
            case 1: due("far(" + i + ", " + t + ")", x.far(i, t), m.far(i, t)); break;
            case 2: due("far(" + i + ", " + day + ")", x.far(i, day), m.far(i, day)); break;
            case 3: due("rock(" + t + ")", x.rock(t), m.rock(t)); break;
            case 4: due("rock(" + day + ")", x.rock(day), m.rock(day)); break;
            case 5: due("price(" + t + ")", x.price(t), m.price(t)); break;
            case 6: what = number(3); due("all(" + what + ")", x.all(what), m.all(what)); break;
            case 7: due("aim(" + i + ", " + a + ")", x.aim(i, a), m.change(i, 1, a, 0, 23)); break;
            case 8: due("move(" + i + ", " + day + ")", x.move(i, day), m.change(i, 0, day, 0, 40)); break;
            case 9: due("speed(" + i + ", " + v + ")", x.speed(i, v), m.change(i, 2, v, 1, 6)); break;
            case 10: case 11: due("undo", x.undo(), m.undo()); break;
            case 12: due("bestAim(" + i + ", " + b + ")", x.bestAim(i, b), m.bestAim(i, b)); break;
            case 13: due("bestDay(" + i + ", " + b + ")", x.bestDay(i, b), m.bestDay(i, b)); break;
            case 14: what = number(3); due("net(" + what + ", " + b + ")", x.net(what, b), m.net(what, b)); break;
            case 15: due("clear", x.clear(), m.clear()); break;
            case 16: what = number(60); due("stray(" + what + ", " + a + ", " + t + ")", x.stray(what, a, t), m.stray(what, a, t)); break;
            case 17: seen(i, day); break;
            case 18: due("meeters(" + i + ", " + b + ")", x.meeters(i, b), m.meeters(i, b)); break;
            case 19: what = number(63); due("stand(" + a + ", " + what + ", " + b + ")", x.stand(a, what, b), m.stand(a, what, b)); break;
            case 20: stands(a, b); break;
            case 21: what = number(9); due("odds(" + what + ", " + v + ", " + b + ")", x.odds(what, v, b), m.odds(what, v, b)); break;
            case 22: what = number(9); v = number(10); due("odds(" + what + ", " + v + ", " + b + ")", x.odds(what, v, b), m.odds(what, v, b)); break;
            case 23: t = number(9999); what = number(2); due("year(" + t + ", " + what + ")", x.year(t, what), m.year(t, what)); break;
            case 24: due("keep", x.keep(), m.keep()); break;
            case 25: due("back", x.back(), m.back()); break;
            default: what = number(6); due("count(" + what + ")", x.count(what), m.count(what));
        }
    }

    /** A stray where a load really is. */
    private void seen(int i, int day) {
        int t = Math.floorMod(day, 41) + upTo(5);
        int f = m.far(i, t);
        int w = m.load(i, 4);
        due("stray(" + f + ", " + w + ", " + t + ")", x.stray(f, w, t), m.stray(f, w, t));
    }

    /** A set of one or two speeds, by which there is not always a way. */
    private void stands(int a, int b) {
        int set = 1 << upTo(5) | 1 << upTo(5);
        due("stand(" + a + ", " + set + ", " + b + ")", x.stand(a, set, b), m.stand(a, set, b));
    }
}
