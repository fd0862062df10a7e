/** A rock far out that throws loads home; ../shared/DOC.md says what every call answers. */
public final class ThrownHome {
    public static final int BAD = -1, NO = -2, FULL = -3, NONE = -4;

    private static final int PLACES = 24;
    private static final int TEXT_MOST = 300;
    private static final int BYTES_MOST = 8;
    private static final int THROWS_MOST = 7;
    private static final int NETS_MOST = 5;
    private static final int CHANGES_MOST = 8;
    private static final int KEPT_MOST = 2;
    private static final int LAST_THROW_DAY = 40;
    private static final int LAST_DAY = 99;
    private static final int FASTEST = 6;
    private static final int WIDEST = 3;
    private static final int FARTHEST = 60;
    private static final int PRICES = 50;
    private static final int DRIFT_DAYS = 4;
    private static final int TENTHS = 10;
    private static final int ODDS_DAYS = 9;
    private static final int YEARS = 10000;
    private static final int DRAWS = 65521;
    // Later than any day, so that it stands behind all of them when days are compared.
    private static final int NEVER = 1000;

    // The columns of a THROW in the order of load's 'what'; HOME, where it comes, is for the class alone.
    private static final int DAY = 0, AIM = 1, SPEED = 2, KIND = 3;
    private static final int TO = 4, BEHIND = 5, HOW = 6, WHEN = 7, PAID = 8, HOME = 9;
    private static final int TOLD = 4, KNOWN = 10;
    private static final int PLACE = 0, WIDTH = 1, FROM = 2, UNTIL = 3;

    private static final int PLAIN = 0, SPITE = 1, SOFT = 2, DRIFTING = 3;
    private static final int CAUGHT = 0, MISSED = 1, MET = 2;

    private final Text text;
    private final Reader reader;
    private final Plan laid;
    // What is tried out stands here, so that nothing laid becomes another by it.
    private final Plan trial;
    private final Flight flight;
    private final Changes changes;
    private final Kept kept;
    private final Turns turns;

    public ThrownHome() {
        text = new Text();
        reader = new Reader();
        laid = new Plan();
        trial = new Plan();
        flight = new Flight();
        changes = new Changes();
        kept = new Kept();
        turns = new Turns();
        laid.thrown.add(0, 0, 3, PLAIN);
        laid.thrown.add(1, 3, 3, PLAIN);
        laid.nets.add(0, 0, 0, LAST_DAY);
    }

    // ---- rocks

    public int write(int n, long v) {
        if (!within(n, 1, BYTES_MOST)) {
            return BAD;
        }
        if (text.length + n > TEXT_MOST) {
            return FULL;
        }
        for (int k = n - 1; k >= 0; k--) {
            text.append((int) (v >>> (8 * k)) & 255);
        }
        return text.length;
    }

    public int wipe() {
        int was = text.length;
        text.length = 0;
        return was;
    }

    public int fault() {
        return reader.firstFault(text, trial);
    }

    public int lay() {
        if (reader.firstFault(text, trial) != NONE || trial.thrown.rows() == 0) {
            return NO;
        }
        laid.takeOver(trial);
        changes.forget();
        kept.forget();
        return laid.thrown.rows();
    }

    public int load(int i, int what) {
        if (!laid.thrown.has(i) || !within(what, DAY, PAID)) {
            return BAD;
        }
        flight.fly(laid, 0);
        return flight.known(i, what);
    }

    public int far(int i, int t) {
        if (!laid.thrown.has(i) || !within(t, 0, LAST_DAY)) {
            return BAD;
        }
        flight.fly(laid, 0);
        return flight.farOn(i, t);
    }

    public int rock(int t) {
        if (!within(t, 0, LAST_DAY)) {
            return BAD;
        }
        flight.fly(laid, 0);
        return flight.standBehind(t);
    }

    public int price(int d) {
        return within(d, 0, LAST_DAY) ? laid.priceOn(d) : BAD;
    }

    public int all(int what) {
        if (!within(what, 0, 3)) {
            return BAD;
        }
        flight.fly(laid, 0);
        return what == 3 ? flight.paidInAll() : flight.howMany(what);
    }

    // ---- changes

    public int aim(int i, int a) {
        return change(i, AIM, a, within(a, 0, PLACES - 1));
    }

    public int move(int i, int t) {
        return change(i, DAY, t, within(t, 0, LAST_THROW_DAY));
    }

    public int speed(int i, int v) {
        return change(i, SPEED, v, within(v, 1, FASTEST));
    }

    public int undo() {
        return changes.takeBack(laid.thrown) ? changes.held : NO;
    }

    private int change(int i, int column, int value, boolean told) {
        if (!laid.thrown.has(i) || !told) {
            return BAD;
        }
        int was = laid.thrown.get(i, column);
        changes.note(i, column, was);
        laid.thrown.set(i, column, value);
        return was;
    }

    // ---- what is best

    public int bestAim(int i, int what) {
        if (!laid.thrown.has(i) || !within(what, 0, 1)) {
            return BAD;
        }
        int best = 0;
        int most = -1;
        trial.takeOver(laid);
        for (int a = 0; a < PLACES; a++) {
            trial.thrown.set(i, AIM, a);
            flight.fly(trial, 0);
            if (flight.howMany(CAUGHT) > most) {
                most = flight.howMany(CAUGHT);
                best = a;
            }
        }
        return what == 0 ? best : most;
    }

    public int bestDay(int i, int what) {
        if (!laid.thrown.has(i) || !within(what, 0, 1)) {
            return BAD;
        }
        int best = NONE;
        int most = 0;
        trial.takeOver(laid);
        for (int t = 0; t <= LAST_THROW_DAY; t++) {
            trial.thrown.set(i, DAY, t);
            flight.fly(trial, 0);
            if (flight.known(i, PAID) > most) {
                most = flight.known(i, PAID);
                best = t;
            }
        }
        return what == 0 || best == NONE ? best : most;
    }

    public int net(int w, int what) {
        if (!within(w, 0, WIDEST) || !within(what, 0, 1)) {
            return BAD;
        }
        int best = 0;
        int most = -1;
        flight.fly(laid, 0);
        for (int place = 0; place < PLACES; place++) {
            int caught = flight.caughtWith(place, w);
            if (caught > most) {
                most = caught;
                best = place;
            }
        }
        return what == 0 ? best : most;
    }

    public int clear() {
        int best = 0;
        int fewest = THROWS_MOST + 1;
        int sets = 1 << Math.min(laid.thrown.rows(), THROWS_MOST);
        for (int set = 0; set < sets; set++) {
            if (Integer.bitCount(set) < fewest) {
                flight.fly(laid, set);
                if (flight.howMany(MET) == 0) {
                    fewest = Integer.bitCount(set);
                    best = set;
                }
            }
        }
        return best;
    }

    // ---- strays, stands

    public int stray(int f, int w, int t) {
        if (!within(f, 0, FARTHEST) || !within(w, 0, PLACES - 1) || !within(t, 0, LAST_DAY)) {
            return BAD;
        }
        int set = 0;
        flight.fly(laid, 0);
        for (int i = 0; i < laid.thrown.rows(); i++) {
            if (flight.farOn(i, t) == f && flight.known(i, TO) == w) {
                set |= 1 << i;
            }
        }
        return set;
    }

    public int meeters(int i, int what) {
        if (!laid.thrown.has(i) || !within(what, 0, 1)) {
            return BAD;
        }
        int many = 0;
        int first = NONE;
        for (int day = 0; day <= LAST_THROW_DAY; day++) {
            for (int speed = 1; speed <= FASTEST; speed++) {
                int met = meetingDay(laid.thrown.get(i, DAY), laid.thrown.get(i, SPEED), day, speed, laid.home);
                if (met != NEVER) {
                    many++;
                    first = first == NONE ? 10 * day + speed : first;
                }
            }
        }
        return what == 0 ? many : first;
    }

    public int stand(int s, int set, int what) {
        if (!within(s, 0, PLACES - 1) || !within(set, 1, (1 << FASTEST) - 1) || !within(what, 0, 1)) {
            return BAD;
        }
        flight.fly(laid, 0);
        turns.reach(set);
        int way = Math.floorMod(flight.end - s, PLACES);
        return what == 0 ? turns.fewest(way) : turns.firstSpeed(way, set);
    }

    // ---- odds, years

    public long odds(int n, int x, int part) {
        if (!within(n, 0, ODDS_DAYS) || !within(x, 0, TENTHS) || !within(part, 0, 1)) {
            return BAD;
        }
        long below = power(TENTHS, n);
        long above = 0;
        for (int ups = 0; ups <= n; ups++) {
            if (2 * ups >= n) {
                above += ways(n, ups) * power(x, ups) * power(TENTHS - x, n - ups);
            }
        }
        long common = commonDivisor(above, below);
        long asked = part == 0 ? above : below;
        return common > 0 ? asked / common : asked;
    }

    public int year(int z, int what) {
        if (!within(z, 0, YEARS - 1) || !within(what, 0, 2)) {
            return BAD;
        }
        trial.takeOver(laid);
        for (int i = 0; i < trial.thrown.rows(); i++) {
            long x = 7919L * z + 6151L * i + 1;
            trial.thrown.set(i, AIM, (int) (x * x % DRAWS % PLACES));
        }
        flight.fly(trial, 0);
        switch (what) {
            case 0: return flight.howMany(CAUGHT);
            case 1: return flight.paidInAll();
            default: return flight.end;
        }
    }

    public int keep() {
        return kept.take(laid.thrown) ? kept.held : FULL;
    }

    public int back() {
        if (!kept.giveBack(laid.thrown)) {
            return NO;
        }
        changes.forget();
        return kept.held;
    }

    public int count(int what) {
        switch (what) {
            case 0: return laid.thrown.rows();
            case 1: return laid.nets.rows();
            case 2: return laid.stand;
            case 3: return laid.home;
            case 4: return changes.held;
            case 5: return kept.held;
            case 6: return text.length;
            default: return BAD;
        }
    }

    // ---- numbers

    private static boolean within(int x, int low, int high) {
        return x >= low && x <= high;
    }

    /** What stands at i; 0 outside, so that no index is used unseen. */
    private static int at(int[] row, int i) {
        return i >= 0 && i < row.length ? row[i] : 0;
    }

    private static void put(int[] row, int i, int value) {
        if (i >= 0 && i < row.length) {
            row[i] = value;
        }
    }

    /** How far two places are apart, round the shorter way. */
    private static int apart(int place, int other) {
        int round = Math.floorMod(place - other, PLACES);
        return Math.min(round, PLACES - round);
    }

    /** The first day on which two that are thrown to one place are as far, neither being home; NEVER. */
    private static int meetingDay(int dayA, int speedA, int dayB, int speedB, int home) {
        int slower = speedA - speedB;
        if (slower == 0) {
            return dayA == dayB ? dayA : NEVER;
        }
        // Both are as far when speedA * (day - dayA) is speedB * (day - dayB): on one day at most.
        int both = speedA * dayA - speedB * dayB;
        if (both % slower != 0) {
            return NEVER;
        }
        int day = both / slower;
        boolean thrown = day >= dayA && day >= dayB;
        return thrown && speedA * (day - dayA) < home ? day : NEVER;
    }

    private static long power(long base, int times) {
        long product = 1;
        for (int k = 0; k < times; k++) {
            product *= base;
        }
        return product;
    }

    /** In how many ways so many of n days can be chosen. */
    private static long ways(int n, int chosen) {
        long many = 1;
        for (int k = 1; k <= chosen; k++) {
            many = many * (n - k + 1) / k;
        }
        return many;
    }

    private static long commonDivisor(long a, long b) {
        long divisor = a;
        long rest = b;
        // Euclid's steps for numbers up to 10 to the 9th are fewer than 64.
        for (int k = 0; k < 64 && rest != 0; k++) {
            long next = divisor % rest;
            divisor = rest;
            rest = next;
        }
        return divisor;
    }

    /** Rows of numbers; outside of them 0 is read and nothing is put. */
    private static final class Table {
        private final int[] cells;
        private final int most;
        private final int wide;
        private int filled;

        Table(int most, int wide) {
            this.most = Math.max(0, most);
            this.wide = Math.max(0, wide);
            cells = new int[this.most * this.wide];
            filled = 0;
        }

        int rows() {
            return filled;
        }

        boolean has(int row) {
            return row >= 0 && row < filled;
        }

        void empty() {
            filled = 0;
        }

        int get(int row, int column) {
            boolean inside = row >= 0 && row < most && column >= 0 && column < wide;
            return inside ? cells[row * wide + column] : 0;
        }

        void set(int row, int column, int value) {
            if (row >= 0 && row < most && column >= 0 && column < wide) {
                cells[row * wide + column] = value;
            }
        }

        boolean add(int a, int b, int c, int d) {
            if (filled >= most) {
                return false;
            }
            set(filled, 0, a);
            set(filled, 1, b);
            set(filled, 2, c);
            set(filled, 3, d);
            filled++;
            return true;
        }

        void takeOver(Table other) {
            System.arraycopy(other.cells, 0, cells, 0, Math.min(cells.length, other.cells.length));
            filled = Math.min(other.filled, most);
        }
    }

    /** The bytes that were written. */
    private static final class Text {
        private final int[] bytes = new int[TEXT_MOST];
        private int length = 0;

        void append(int value) {
            if (length < TEXT_MOST) {
                put(bytes, length, value);
                length++;
            }
        }

        /** The byte there; -1, which is no byte, behind the last one. */
        int signAt(int i) {
            return i >= 0 && i < length ? at(bytes, i) : -1;
        }
    }

    /** Reads a text item by item into a plan. */
    private static final class Reader {
        private final int[] numbers = new int[TOLD];
        private int next = 0;

        /** Where the first item begins that is not so; the plan is whole only if it is NONE. */
        int firstFault(Text text, Plan into) {
            into.makeBare();
            next = 0;
            // An item that is so takes some bytes, so there are fewer items than bytes.
            for (int items = 0; items < TEXT_MOST && next < text.length; items++) {
                int start = next;
                if (!readItem(text, into)) {
                    return start;
                }
            }
            return NONE;
        }

        private boolean readItem(Text text, Plan into) {
            int letter = text.signAt(next);
            int wanted = numbersBehind(letter);
            next++;
            for (int k = 0; k < wanted; k++) {
                int end = k == wanted - 1 ? ';' : ',';
                if (!readNumber(text, k) || text.signAt(next) != end) {
                    return false;
                }
                next++;
            }
            return into.tell(letter, at(numbers, 0), at(numbers, 1), at(numbers, 2), at(numbers, 3));
        }

        private boolean readNumber(Text text, int k) {
            if (!isFigure(text.signAt(next))) {
                return false;
            }
            int number = text.signAt(next) - '0';
            next++;
            if (isFigure(text.signAt(next))) {
                number = 10 * number + text.signAt(next) - '0';
                next++;
            }
            put(numbers, k, number);
            return true;
        }

        private static boolean isFigure(int sign) {
            return sign >= '0' && sign <= '9';
        }

        private static int numbersBehind(int letter) {
            switch (letter) {
                case 'r': case 'p': return 2;
                case 't': case 'n': return 4;
                default: return 0;
            }
        }
    }

    /** What a text tells: the rock, the throws, the nets, the prices. */
    private static final class Plan {
        private int stand;
        private int home;
        private int priceStart;
        private int priceStep;
        private final Table thrown = new Table(THROWS_MOST, TOLD);
        private final Table nets = new Table(NETS_MOST, TOLD);

        Plan() {
            makeBare();
        }

        void makeBare() {
            stand = 0;
            home = 12;
            priceStart = 0;
            priceStep = 7;
            thrown.empty();
            nets.empty();
        }

        void takeOver(Plan other) {
            stand = other.stand;
            home = other.home;
            priceStart = other.priceStart;
            priceStep = other.priceStep;
            thrown.takeOver(other.thrown);
            nets.takeOver(other.nets);
        }

        /** Takes an item of the text; whether it is so. */
        boolean tell(int letter, int a, int b, int c, int d) {
            switch (letter) {
                case 'r': return tellRock(a, b);
                case 't': return tellThrow(a, b, c, d);
                case 'n': return tellNet(a, b, c, d);
                case 'p': return tellPrice(a, b);
                default: return false;
            }
        }

        private boolean tellRock(int place, int distance) {
            if (!within(place, 0, PLACES - 1) || !within(distance, 1, FARTHEST)) {
                return false;
            }
            stand = place;
            home = distance;
            return true;
        }

        private boolean tellThrow(int day, int aim, int speed, int kind) {
            return within(day, 0, LAST_THROW_DAY) && within(aim, 0, PLACES - 1)
                && within(speed, 1, FASTEST) && within(kind, PLAIN, DRIFTING)
                && thrown.add(day, aim, speed, kind);
        }

        private boolean tellNet(int place, int width, int from, int until) {
            return within(place, 0, PLACES - 1) && within(width, 0, WIDEST)
                && within(from, 0, LAST_DAY) && within(until, 0, LAST_DAY)
                && nets.add(place, width, from, until);
        }

        private boolean tellPrice(int start, int step) {
            if (!within(start, 0, PRICES - 1) || !within(step, 0, PRICES - 1)) {
                return false;
            }
            priceStart = start;
            priceStep = step;
            return true;
        }

        int priceOn(int day) {
            return (priceStart + priceStep * day) % PRICES + 1;
        }

        boolean catches(int place, int day) {
            for (int k = 0; k < nets.rows(); k++) {
                boolean out = day >= nets.get(k, FROM) && day <= nets.get(k, UNTIL);
                if (out && apart(place, nets.get(k, PLACE)) <= nets.get(k, WIDTH)) {
                    return true;
                }
            }
            return false;
        }
    }

    /** What becomes of every load of a plan. */
    private static final class Flight {
        private final Table loads = new Table(THROWS_MOST, KNOWN);
        // The throws that are done, as they follow one another.
        private final int[] order = new int[THROWS_MOST];
        private int done = 0;
        private int start = 0;
        private int end = 0;

        /** Works all out; of the throws those whose bits are in leftOut are not done. */
        void fly(Plan plan, int leftOut) {
            done = 0;
            for (int i = 0; i < plan.thrown.rows(); i++) {
                for (int column = 0; column < TOLD; column++) {
                    loads.set(i, column, plan.thrown.get(i, column));
                }
                if ((leftOut >> i & 1) == 0) {
                    lineUp(i);
                }
            }
            throwAll(plan.stand);
            meetAll(plan.home);
            bringHome(plan);
        }

        /** Puts a throw behind all those of its day or an earlier one. */
        private void lineUp(int i) {
            int k = done;
            while (k > 0 && loads.get(at(order, k - 1), DAY) > loads.get(i, DAY)) {
                put(order, k, at(order, k - 1));
                k--;
            }
            put(order, k, i);
            done++;
        }

        private void throwAll(int stand) {
            start = stand;
            end = stand;
            for (int k = 0; k < done; k++) {
                int i = at(order, k);
                loads.set(i, TO, (end + loads.get(i, AIM)) % PLACES);
                end = Math.floorMod(end - turnBy(i), PLACES);
                loads.set(i, BEHIND, end);
                loads.set(i, WHEN, NEVER);
            }
        }

        private int turnBy(int i) {
            switch (loads.get(i, KIND)) {
                case SPITE: return 2 * loads.get(i, SPEED);
                case SOFT: return 0;
                default: return loads.get(i, SPEED);
            }
        }

        /** Who meets gets his last day; by each round two are lost at least. */
        private void meetAll(int home) {
            for (int round = 0; round < THROWS_MOST; round++) {
                int day = nextMeeting(home);
                if (day == NEVER) {
                    return;
                }
                loseOn(day, home);
            }
        }

        private int nextMeeting(int home) {
            int next = NEVER;
            for (int a = 0; a < done; a++) {
                for (int b = a + 1; b < done; b++) {
                    int i = at(order, a);
                    int j = at(order, b);
                    if (loads.get(i, WHEN) == NEVER && loads.get(j, WHEN) == NEVER) {
                        next = Math.min(next, meetingOf(i, j, home));
                    }
                }
            }
            return next;
        }

        private void loseOn(int day, int home) {
            for (int a = 0; a < done; a++) {
                for (int b = a + 1; b < done; b++) {
                    int i = at(order, a);
                    int j = at(order, b);
                    // Who was lost on this very day still meets a third one.
                    boolean there = loads.get(i, WHEN) >= day && loads.get(j, WHEN) >= day;
                    if (there && meetingOf(i, j, home) == day) {
                        loads.set(i, WHEN, day);
                        loads.set(j, WHEN, day);
                    }
                }
            }
        }

        private int meetingOf(int i, int j, int home) {
            if (loads.get(i, TO) != loads.get(j, TO)) {
                return NEVER;
            }
            return meetingDay(loads.get(i, DAY), loads.get(i, SPEED), loads.get(j, DAY), loads.get(j, SPEED), home);
        }

        private void bringHome(Plan plan) {
            for (int k = 0; k < done; k++) {
                int i = at(order, k);
                loads.set(i, HOW, MET);
                loads.set(i, PAID, 0);
                if (loads.get(i, WHEN) == NEVER) {
                    come(i, plan);
                }
            }
        }

        private void come(int i, Plan plan) {
            int speed = Math.max(1, loads.get(i, SPEED));
            int days = (plan.home + speed - 1) / speed;
            int drift = loads.get(i, KIND) == DRIFTING ? days / DRIFT_DAYS : 0;
            int place = (loads.get(i, TO) + drift) % PLACES;
            int day = loads.get(i, DAY) + days;
            boolean caught = plan.catches(place, day);
            loads.set(i, HOME, place);
            loads.set(i, WHEN, day);
            loads.set(i, HOW, caught ? CAUGHT : MISSED);
            loads.set(i, PAID, caught ? plan.priceOn(day) : 0);
        }

        int known(int i, int column) {
            return loads.get(i, column);
        }

        int farOn(int i, int day) {
            int days = day - loads.get(i, DAY);
            boolean onItsWay = days >= 0 && day < loads.get(i, WHEN);
            return onItsWay ? days * loads.get(i, SPEED) : NONE;
        }

        int standBehind(int day) {
            int stand = start;
            for (int k = 0; k < done; k++) {
                int i = at(order, k);
                if (loads.get(i, DAY) <= day) {
                    stand = loads.get(i, BEHIND);
                }
            }
            return stand;
        }

        int howMany(int how) {
            int many = 0;
            for (int k = 0; k < done; k++) {
                if (loads.get(at(order, k), HOW) == how) {
                    many++;
                }
            }
            return many;
        }

        int paidInAll() {
            int paid = 0;
            for (int k = 0; k < done; k++) {
                paid += loads.get(at(order, k), PAID);
            }
            return paid;
        }

        /** How many are caught if there is a net more, out on all days. */
        int caughtWith(int place, int width) {
            int many = 0;
            for (int k = 0; k < done; k++) {
                int i = at(order, k);
                boolean more = loads.get(i, HOW) == MISSED && apart(loads.get(i, HOME), place) <= width;
                if (more || loads.get(i, HOW) == CAUGHT) {
                    many++;
                }
            }
            return many;
        }
    }

    /** What throws were before they were changed, the latest last. */
    private static final class Changes {
        private final int[] who = new int[CHANGES_MOST];
        private final int[] column = new int[CHANGES_MOST];
        private final int[] was = new int[CHANGES_MOST];
        private int held = 0;

        void forget() {
            held = 0;
        }

        void note(int i, int changed, int before) {
            if (held == CHANGES_MOST) {
                dropOldest();
            }
            put(who, held, i);
            put(column, held, changed);
            put(was, held, before);
            held++;
        }

        private void dropOldest() {
            for (int k = 1; k < held; k++) {
                put(who, k - 1, at(who, k));
                put(column, k - 1, at(column, k));
                put(was, k - 1, at(was, k));
            }
            held--;
        }

        boolean takeBack(Table thrown) {
            if (held == 0) {
                return false;
            }
            held--;
            thrown.set(at(who, held), at(column, held), at(was, held));
            return true;
        }
    }

    /** All throws as they once were, the last ones given back first. */
    private static final class Kept {
        private final Table older = new Table(THROWS_MOST, TOLD);
        private final Table newer = new Table(THROWS_MOST, TOLD);
        private int held = 0;

        void forget() {
            held = 0;
        }

        boolean take(Table thrown) {
            if (held == KEPT_MOST) {
                return false;
            }
            (held == 0 ? older : newer).takeOver(thrown);
            held++;
            return true;
        }

        boolean giveBack(Table thrown) {
            if (held == 0) {
                return false;
            }
            held--;
            thrown.takeOver(held == 0 ? older : newer);
            return true;
        }
    }

    /** By how few throws the rock is turned so and so far back. */
    private static final class Turns {
        private final int[] need = new int[PLACES];

        void reach(int set) {
            for (int way = 0; way < PLACES; way++) {
                put(need, way, way == 0 ? 0 : NEVER);
            }
            for (int done = 0; done < PLACES; done++) {
                for (int way = 0; way < PLACES; way++) {
                    if (at(need, way) == done) {
                        goOn(way, set, done + 1);
                    }
                }
            }
        }

        private void goOn(int way, int set, int done) {
            for (int speed = 1; speed <= FASTEST; speed++) {
                int next = (way + speed) % PLACES;
                if (isIn(speed, set) && at(need, next) == NEVER) {
                    put(need, next, done);
                }
            }
        }

        private static boolean isIn(int speed, int set) {
            return (set >> (speed - 1) & 1) == 1;
        }

        int fewest(int way) {
            return at(need, way) == NEVER ? NONE : at(need, way);
        }

        int firstSpeed(int way, int set) {
            if (at(need, way) == NEVER) {
                return NONE;
            }
            for (int speed = 1; speed <= FASTEST; speed++) {
                int rest = Math.floorMod(way - speed, PLACES);
                if (isIn(speed, set) && at(need, rest) == at(need, way) - 1) {
                    return speed;
                }
            }
            return NONE;
        }
    }
}
