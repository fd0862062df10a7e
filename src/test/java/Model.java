import java.math.BigInteger;
import java.util.ArrayDeque;
import java.util.ArrayList;
import java.util.Arrays;
import java.util.Deque;
import java.util.List;
import java.util.regex.Matcher;
import java.util.regex.Pattern;

/** The document once more, by other ways than the program's: day by day, path by path, with the Java library. */
final class Model {
    private static final int BAD = -1, NO = -2, FULL = -3, NONE = -4;
    private static final Pattern ITEM = Pattern.compile("([rp])(\\d\\d?),(\\d\\d?);|([tn])(\\d\\d?),(\\d\\d?),(\\d\\d?),(\\d\\d?);");

    private static final class Load {
        int to, behind, home = -1, lost = -1, how, when, paid;
        boolean done;
    }

    private final StringBuilder text = new StringBuilder();
    private int stand = 0, home = 12, x = 0, y = 7;
    private List<int[]> throwsTold = new ArrayList<>(List.of(new int[] {0, 0, 3, 0}, new int[] {1, 3, 3, 0}));
    private List<int[]> nets = new ArrayList<>(List.of(new int[] {0, 0, 0, 99}));
    private final Deque<List<int[]>> before = new ArrayDeque<>();
    private final Deque<List<int[]>> kept = new ArrayDeque<>();

    private static List<int[]> copy(List<int[]> rows) {
        List<int[]> made = new ArrayList<>();
        for (int[] row : rows) {
            made.add(row.clone());
        }
        return made;
    }

    private static boolean in(int v, int low, int high) {
        return low <= v && v <= high;
    }

    private boolean isThrow(int i) {
        return in(i, 0, throwsTold.size() - 1);
    }

    // ---- text

    int write(int n, long v) {
        if (!in(n, 1, 8)) {
            return BAD;
        }
        if (text.length() + n > 300) {
            return FULL;
        }
        byte[] all = new BigInteger(1, new byte[] {1, 0, 0, 0, 0, 0, 0, 0, 0}).add(BigInteger.valueOf(v)).toByteArray();
        for (int k = all.length - n; k < all.length; k++) {
            text.append((char) (all[k] & 255));
        }
        return text.length();
    }

    int wipe() {
        int was = text.length();
        text.setLength(0);
        return was;
    }

    /** The items of the text, or null in the place of the faulty one. */
    private List<int[]> items(int[] faultAt) {
        List<int[]> items = new ArrayList<>();
        Matcher m = ITEM.matcher(text);
        int at = 0, thrown = 0, caught = 0;
        faultAt[0] = NONE;
        while (at < text.length()) {
            m.region(at, text.length());
            if (!m.lookingAt()) {
                faultAt[0] = at;
                return items;
            }
            int first = m.group(1) != null ? 1 : 4;
            char letter = m.group(first).charAt(0);
            int[] item = new int[letter == 'r' || letter == 'p' ? 3 : 5];
            item[0] = letter;
            for (int k = 1; k < item.length; k++) {
                item[k] = Integer.parseInt(m.group(first + k));
            }
            thrown += letter == 't' ? 1 : 0;
            caught += letter == 'n' ? 1 : 0;
            boolean so = switch (letter) {
                case 'r' -> item[1] < 24 && item[2] >= 1 && item[2] <= 60;
                case 'p' -> item[1] < 50 && item[2] < 50;
                case 't' -> item[1] <= 40 && item[2] < 24 && item[3] >= 1 && item[3] <= 6 && item[4] <= 3 && thrown <= 7;
                default -> item[1] < 24 && item[2] <= 3 && caught <= 5;
            };
            if (!so) {
                faultAt[0] = at;
                return items;
            }
            items.add(item);
            at = m.end();
        }
        return items;
    }

    int fault() {
        int[] faultAt = new int[1];
        items(faultAt);
        return faultAt[0];
    }

    int lay() {
        int[] faultAt = new int[1];
        List<int[]> items = items(faultAt);
        if (faultAt[0] != NONE || items.stream().noneMatch(item -> item[0] == 't')) {
            return NO;
        }
        stand = 0;
        home = 12;
        x = 0;
        y = 7;
        throwsTold = new ArrayList<>();
        nets = new ArrayList<>();
        for (int[] item : items) {
            int[] rest = Arrays.copyOfRange(item, 1, item.length);
            switch (item[0]) {
                case 'r' -> { stand = rest[0]; home = rest[1]; }
                case 'p' -> { x = rest[0]; y = rest[1]; }
                case 't' -> throwsTold.add(rest);
                default -> nets.add(rest);
            }
        }
        before.clear();
        kept.clear();
        return throwsTold.size();
    }

    // ---- what becomes of loads

    private static int farOf(int[] told, int day) {
        return told[2] * (day - told[0]);
    }

    private Load[] fly(List<int[]> told, List<int[]> out, int left) {
        Load[] loads = new Load[told.size()];
        int at = stand;
        for (int day = 0; day <= 40; day++) {
            for (int i = 0; i < loads.length; i++) {
                if (told.get(i)[0] == day) {
                    loads[i] = new Load();
                    if ((left & 1 << i) == 0) {
                        loads[i].done = true;
                        loads[i].to = (at + told.get(i)[1]) % 24;
                        int turn = new int[] {1, 2, 0, 1}[told.get(i)[3]] * told.get(i)[2];
                        at = (at + 240 - turn) % 24;
                        loads[i].behind = at;
                    }
                }
            }
        }
        for (int day = 0; day <= 100; day++) {
            for (int i = 0; i < loads.length; i++) {
                arrive(told.get(i), loads[i], day, out);
            }
            boolean[] meets = new boolean[loads.length];
            for (int i = 0; i < loads.length; i++) {
                for (int j = 0; j < loads.length; j++) {
                    meets[i] |= i != j && flies(told.get(i), loads[i], day) && flies(told.get(j), loads[j], day)
                        && loads[i].to == loads[j].to && farOf(told.get(i), day) == farOf(told.get(j), day);
                }
            }
            for (int i = 0; i < loads.length; i++) {
                if (meets[i]) {
                    loads[i].lost = day;
                    loads[i].how = 2;
                    loads[i].when = day;
                }
            }
        }
        return loads;
    }

    private boolean flies(int[] told, Load load, int day) {
        return load.done && day >= told[0] && load.home < 0 && load.lost < 0;
    }

    private void arrive(int[] told, Load load, int day, List<int[]> out) {
        if (!flies(told, load, day) || farOf(told, day) < home) {
            return;
        }
        load.home = load.to + (told[3] == 3 ? (day - told[0]) / 4 : 0);
        load.home %= 24;
        load.how = 1;
        load.when = day;
        for (int[] net : out) {
            for (int w = -net[1]; w <= net[1]; w++) {
                if ((load.home + w + 24) % 24 == net[0] && net[2] <= day && day <= net[3]) {
                    load.how = 0;
                    load.paid = (x + y * day) % 50 + 1;
                }
            }
        }
    }

    private Load[] fly() {
        return fly(throwsTold, nets, 0);
    }

    private static int caught(Load[] loads) {
        return (int) Arrays.stream(loads).filter(load -> load.done && load.how == 0).count();
    }

    int load(int i, int what) {
        if (!isThrow(i) || !in(what, 0, 8)) {
            return BAD;
        }
        Load load = fly()[i];
        return what < 4 ? throwsTold.get(i)[what] : new int[] {load.to, load.behind, load.how, load.when, load.paid}[what - 4];
    }

    private int farNow(int i, int t) {
        Load load = fly()[i];
        boolean ended = t >= load.when;
        return t < throwsTold.get(i)[0] || ended ? NONE : farOf(throwsTold.get(i), t);
    }

    int far(int i, int t) {
        return isThrow(i) && in(t, 0, 99) ? farNow(i, t) : BAD;
    }

    private int standBehind(int t) {
        int turned = 0;
        for (int[] told : throwsTold) {
            turned += told[0] <= t ? new int[] {1, 2, 0, 1}[told[3]] * told[2] : 0;
        }
        return (stand + 24 * 10 - turned) % 24;
    }

    int rock(int t) {
        return in(t, 0, 99) ? standBehind(t) : BAD;
    }

    int price(int d) {
        return in(d, 0, 99) ? (x + y * d) % 50 + 1 : BAD;
    }

    int all(int what) {
        if (!in(what, 0, 3)) {
            return BAD;
        }
        int sum = 0;
        for (Load load : fly()) {
            sum += what == 3 ? load.paid : load.how == what ? 1 : 0;
        }
        return sum;
    }

    // ---- changes

    int change(int i, int column, int value, int low, int high) {
        if (!isThrow(i) || !in(value, low, high)) {
            return BAD;
        }
        before.addLast(copy(throwsTold));
        if (before.size() > 8) {
            before.removeFirst();
        }
        int was = throwsTold.get(i)[column];
        throwsTold.get(i)[column] = value;
        return was;
    }

    int undo() {
        if (before.isEmpty()) {
            return NO;
        }
        throwsTold = before.removeLast();
        return before.size();
    }

    // ---- what is best

    int bestAim(int i, int what) {
        if (!isThrow(i) || !in(what, 0, 1)) {
            return BAD;
        }
        int[] best = {0, -1};
        for (int a = 23; a >= 0; a--) {
            List<int[]> told = copy(throwsTold);
            told.get(i)[1] = a;
            int many = caught(fly(told, nets, 0));
            best = many >= best[1] ? new int[] {a, many} : best;
        }
        return best[what];
    }

    int bestDay(int i, int what) {
        if (!isThrow(i) || !in(what, 0, 1)) {
            return BAD;
        }
        int[] best = {NONE, NONE};
        for (int t = 40; t >= 0; t--) {
            List<int[]> told = copy(throwsTold);
            told.get(i)[0] = t;
            int paid = fly(told, nets, 0)[i].paid;
            best = paid > 0 && paid >= best[1] ? new int[] {t, paid} : best;
        }
        return best[what];
    }

    int net(int w, int what) {
        if (!in(w, 0, 3) || !in(what, 0, 1)) {
            return BAD;
        }
        int[] best = {0, -1};
        for (int place = 23; place >= 0; place--) {
            List<int[]> more = copy(nets);
            more.add(new int[] {place, w, 0, 1000});
            int many = caught(fly(throwsTold, more, 0));
            best = many >= best[1] ? new int[] {place, many} : best;
        }
        return best[what];
    }

    int clear() {
        int best = -1;
        for (int set = (1 << throwsTold.size()) - 1; set >= 0; set--) {
            boolean none = Arrays.stream(fly(throwsTold, nets, set)).noneMatch(load -> load.how == 2);
            if (none && (best < 0 || Integer.bitCount(set) <= Integer.bitCount(best))) {
                best = set;
            }
        }
        return best;
    }

    // ---- strays, stands

    int stray(int f, int w, int t) {
        if (!in(f, 0, 60) || !in(w, 0, 23) || !in(t, 0, 99)) {
            return BAD;
        }
        int set = 0;
        for (int i = 0; i < throwsTold.size(); i++) {
            set += farNow(i, t) == f && fly()[i].to == w ? 1 << i : 0;
        }
        return set;
    }

    int meeters(int i, int what) {
        if (!isThrow(i) || !in(what, 0, 1)) {
            return BAD;
        }
        List<Integer> found = new ArrayList<>();
        int[] told = throwsTold.get(i);
        for (int code = 1; code <= 406; code++) {
            int[] more = {code / 10, 0, code % 10, 0};
            boolean meets = false;
            for (int day = Math.max(told[0], more[0]); in(more[2], 1, 6) && day <= 100; day++) {
                meets |= farOf(told, day) < home && farOf(told, day) == farOf(more, day);
            }
            if (meets) {
                found.add(code);
            }
        }
        return what == 0 ? found.size() : found.isEmpty() ? NONE : found.get(0);
    }

    int stand(int s, int set, int what) {
        if (!in(s, 0, 23) || !in(set, 1, 63) || !in(what, 0, 1)) {
            return BAD;
        }
        boolean[] reached = new boolean[24];
        reached[standBehind(99)] = true;
        if (reached[s]) {
            return what == 0 ? 0 : NONE;
        }
        // All ways at once, each place with the lowest first speed of its ways of the same length.
        int[] first = new int[24];
        for (int throwsDone = 1; throwsDone <= 24; throwsDone++) {
            boolean[] then = new boolean[24];
            int[] firstThen = new int[24];
            for (int place = 0; place < 24; place++) {
                for (int speed = 1; reached[place] && speed <= 6; speed++) {
                    int next = (place + 24 - speed) % 24;
                    if ((set & 1 << (speed - 1)) != 0) {
                        int lowest = throwsDone == 1 ? speed : first[place];
                        firstThen[next] = then[next] ? Math.min(firstThen[next], lowest) : lowest;
                        then[next] = true;
                    }
                }
            }
            reached = then;
            first = firstThen;
            if (reached[s]) {
                return what == 0 ? throwsDone : first[s];
            }
        }
        return NONE;
    }

    // ---- odds, years

    long odds(int n, int chance, int part) {
        if (!in(n, 0, 9) || !in(chance, 0, 10) || !in(part, 0, 1)) {
            return BAD;
        }
        BigInteger above = BigInteger.ZERO;
        for (int path = 0; path < 1 << n; path++) {
            int ups = Integer.bitCount(path);
            if (ups >= n - ups) {
                above = above.add(BigInteger.valueOf(chance).pow(ups).multiply(BigInteger.valueOf(10 - chance).pow(n - ups)));
            }
        }
        BigInteger below = BigInteger.TEN.pow(n);
        BigInteger common = above.gcd(below);
        return (part == 0 ? above : below).divide(common).longValueExact();
    }

    int year(int z, int what) {
        if (!in(z, 0, 9999) || !in(what, 0, 2)) {
            return BAD;
        }
        List<int[]> told = copy(throwsTold);
        for (int i = 0; i < told.size(); i++) {
            BigInteger draw = BigInteger.valueOf(7919).multiply(BigInteger.valueOf(z)).add(BigInteger.valueOf(6151L * i + 1));
            told.get(i)[1] = draw.pow(2).mod(BigInteger.valueOf(65521)).intValue() % 24;
        }
        Load[] loads = fly(told, nets, 0);
        return new int[] {caught(loads), Arrays.stream(loads).mapToInt(load -> load.paid).sum(), standBehind(99)}[what];
    }

    int keep() {
        if (kept.size() == 2) {
            return FULL;
        }
        kept.addLast(copy(throwsTold));
        return kept.size();
    }

    int back() {
        if (kept.isEmpty()) {
            return NO;
        }
        throwsTold = kept.removeLast();
        before.clear();
        return kept.size();
    }

    int count(int what) {
        return switch (what) {
            case 0 -> throwsTold.size();
            case 1 -> nets.size();
            case 2 -> stand;
            case 3 -> home;
            case 4 -> before.size();
            case 5 -> kept.size();
            case 6 -> text.length();
            default -> BAD;
        };
    }
}
