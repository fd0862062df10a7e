import java.util.ArrayList;
import java.util.List;
import java.util.function.Supplier;
import java.util.function.ToLongFunction;

/** All that can be seen of an object, by which it is told whether a call changed anything. */
final class Whole {
    private static final int NO = -2;

    private Whole() {
    }

    /** The call answers so, and behind it all stands as on an object of the same making without the call. */
    static void refused(Checks c, String name, Supplier<ThrownHome> maker, ToLongFunction<ThrownHome> call, long want) {
        ThrownHome x = maker.get();
        c.due(name, call.applyAsLong(x), want);
        c.due("nothing changed by " + name, seen(x).equals(seen(maker.get())) ? 1 : 0, 1);
    }

    /** Nothing changes by a call that asks, whatever it answers. */
    static void asks(Checks c, String name, Supplier<ThrownHome> maker, ToLongFunction<ThrownHome> call) {
        refused(c, name, maker, call, call.applyAsLong(maker.get()));
    }

    /** Three throws, two nets, four changes, one kept, and a text of another rock that is not laid. */
    static ThrownHome rich() {
        ThrownHome x = Checks.laid("r5,20;p10,3;n7,1,7,9;n2,0,0,99;t9,3,6,1;t2,23,3,3;t9,2,1,0;");
        x.aim(2, 11);
        x.keep();
        x.move(0, 4);
        x.speed(1, 2);
        x.aim(0, 7);
        x.wipe();
        Checks.tell(x, "r6,7;t1,2,3,1;p8,9;n3,2,4,5;");
        return x;
    }

    /** As much of all as there can be: 7 throws, 5 nets, 8 changes, 2 kept, 300 bytes. */
    static ThrownHome full() {
        StringBuilder text = new StringBuilder("r7,30;p1,1;");
        for (int i = 0; i < 7; i++) {
            text.append("t").append(i).append(",").append(i).append(",2,").append(i % 4).append(";");
        }
        for (int k = 0; k < 5; k++) {
            text.append("n").append(4 * k).append(",1,0,99;");
        }
        while (text.length() < 300) {
            text.append((300 - text.length()) % 5 == 0 ? "p1,1;" : "p1,11;");
        }
        ThrownHome x = Checks.laid(text.toString());
        for (int k = 0; k < 4; k++) {
            x.aim(k, 20 - k);
        }
        x.keep();
        for (int k = 0; k < 4; k++) {
            x.move(k, 30 - k);
        }
        x.keep();
        x.speed(3, 5);
        return x;
    }

    /** Some 400 calls at most, the last of which use up what can be undone, what is kept and what is told. */
    static List<Long> seen(ThrownHome x) {
        List<Long> seen = new ArrayList<>();
        counts(seen, x);
        // These ahead of fault and of what is tried out, so that nothing of these shows in them.
        seen.add((long) x.price(0));
        seen.add((long) x.price(1));
        int all = x.count(0);
        for (int i = 0; i < all; i++) {
            int day = x.load(i, 0);
            seen.add((long) x.meeters(i, 0));
            seen.add((long) x.stray(0, x.load(i, 4), day));
            seen.add((long) x.far(i, day + 1));
            for (int what = 4; what <= 8; what++) {
                seen.add((long) x.load(i, what));
            }
        }
        for (int w = 0; w <= 3; w++) {
            seen.add((long) x.net(w, 0));
            seen.add((long) x.all(w));
        }
        seen.add((long) x.fault());
        told(seen, x, 7);
        for (long left = x.undo(); left != NO && seen.size() < 500; left = x.undo()) {
            seen.add(left);
            told(seen, x, 4);
        }
        for (long left = x.back(); left != NO && seen.size() < 500; left = x.back()) {
            seen.add(left);
            told(seen, x, 7);
        }
        seen.add((long) x.lay());
        counts(seen, x);
        told(seen, x, 7);
        seen.add((long) x.all(0));
        seen.add((long) x.wipe());
        return seen;
    }

    private static void counts(List<Long> seen, ThrownHome x) {
        for (int what = 0; what <= 6; what++) {
            seen.add((long) x.count(what));
        }
    }

    /** How the first throws are told, and what becomes of them. */
    private static void told(List<Long> seen, ThrownHome x, int throwsSeen) {
        int last = Math.min(x.count(0), throwsSeen);
        for (int i = 0; i < last; i++) {
            for (int what = 0; what <= 3; what++) {
                seen.add((long) x.load(i, what));
            }
        }
    }
}
