/** For each promise of the document: what is ordinary, the edges, and wrong numbers. */
public final class PromisesTest {
    private static final Checks C = new Checks();
    private static final int BAD = -1, NO = -2, FULL = -3, NONE = -4;
    private static final int LOW = Integer.MIN_VALUE, HIGH = Integer.MAX_VALUE;

    // The rock stays by SOFT throws, so these three are thrown to one place, 0.
    private static final String ONE_LOST_EARLY = "r0,20;t0,0,2,2;t1,0,3,2;t3,0,6,2;";
    private static final String THREE_ALIKE = "t0,0,2,2;t1,0,3,2;t2,0,6,2;";

    public static void main(String[] args) {
        newObject();
        write();
        wipe();
        fault();
        lay();
        load();
        loadsThatMeet();
        far();
        rock();
        price();
        all();
        aim();
        move();
        speed();
        undo();
        bestAim();
        bestDay();
        net();
        clear();
        stray();
        meeters();
        stand();
        odds();
        year();
        keep();
        back();
        count();
        C.due("BAD", ThrownHome.BAD, BAD);
        C.due("NO", ThrownHome.NO, NO);
        C.due("FULL", ThrownHome.FULL, FULL);
        C.due("NONE", ThrownHome.NONE, NONE);
        C.end("PromisesTest");
    }

    private static void row(String name, ThrownHome x, int i, int... want) {
        for (int what = 0; what < want.length; what++) {
            C.due(name + " load(" + i + ", " + what + ")", x.load(i, what), want[what]);
        }
    }

    private static void counts(String name, ThrownHome x, int... want) {
        for (int what = 0; what < want.length; what++) {
            C.due(name + " count(" + what + ")", x.count(what), want[what]);
        }
    }

    // Promise 1
    private static void newObject() {
        ThrownHome x = new ThrownHome();
        counts("1", x, 2, 1, 0, 12, 0, 0, 0);
        row("1", x, 0, 0, 0, 3, 0, 0, 21, 0, 4, 29);
        row("1", x, 1, 1, 3, 3, 0, 0, 18, 0, 5, 36);
        C.due("1 price(0)", x.price(0), 1);
        C.due("1 price(1)", x.price(1), 8);
        C.due("1 fault", x.fault(), NONE);
        C.due("1 lay", x.lay(), NO);
        C.due("1 undo", x.undo(), NO);
        C.due("1 back", x.back(), NO);
        C.due("1 net", x.all(0), 2);
        x.aim(0, 1);
        C.due("1 the net is as wide as told", x.all(0), 1);
    }

    // Promise 2
    private static void write() {
        ThrownHome x = new ThrownHome();
        C.due("2 write(0)", x.write(0, 1), BAD);
        C.due("2 write(9)", x.write(9, 1), BAD);
        C.due("2 write(-1)", x.write(-1, 1), BAD);
        C.due("2 write(LOW)", x.write(LOW, 1), BAD);
        C.due("2 write(HIGH)", x.write(HIGH, 1), BAD);
        C.due("2 nothing written", x.count(6), 0);
        // The higher bytes of v, here all bits, are not written.
        C.due("2 write(2)", x.write(2, 0xFFFFFFFFFFFF0000L | 'r' << 8 | '5'), 2);
        C.due("2 write(4)", x.write(4, (long) ',' << 24 | '9' << 16 | ';' << 8 | 't'), 6);
        C.due("2 write(8)", x.write(8, Checks.number("0,1,2,3;".getBytes(), 0, 8)), 14);
        C.due("2 lay", x.lay(), 1);
        counts("2", x, 1, 0, 5, 9, 0, 0, 14);
        row("2", x, 0, 0, 1, 2, 3);
        C.due("2 write(8, -1)", x.write(8, -1L), 22);
        C.due("2 fault", x.fault(), 14);
        C.due("2 write(1, 0)", x.write(1, 0), 23);
        while (x.count(6) < 295) {
            x.write(8, 0);
        }
        C.due("2 length", x.count(6), 295);
        C.due("2 write(6) over", x.write(6, 0), FULL);
        C.due("2 write(8) over", x.write(8, 0), FULL);
        C.due("2 nothing changed", x.count(6), 295);
        C.due("2 write(5) to the end", x.write(5, 0), 300);
        C.due("2 write(1) over", x.write(1, 0), FULL);
        C.due("2 BAD before FULL", x.write(0, 0), BAD);
        C.due("2 BAD before FULL", x.write(9, 0), BAD);
        C.due("2 fault of the full", x.fault(), 14);
    }

    // Promise 3
    private static void wipe() {
        ThrownHome x = new ThrownHome();
        C.due("3 wipe of none", x.wipe(), 0);
        Checks.tell(x, "r0,0;");
        C.due("3 fault", x.fault(), 0);
        C.due("3 wipe", x.wipe(), 5);
        C.due("3 length", x.count(6), 0);
        C.due("3 fault", x.fault(), NONE);
        C.due("3 wipe again", x.wipe(), 0);
        Checks.tell(x, "t7,0,1,0;");
        C.due("3 lay", x.lay(), 1);
        C.due("3 wipe", x.wipe(), 9);
        C.due("3 laid stays", x.load(0, 0), 7);
    }

    // Promise 4
    private static void fault() {
        String seven = "t0,0,1,0;t1,0,1,0;t2,0,1,0;t3,0,1,0;t4,0,1,0;t5,0,1,0;t6,0,1,0;";
        String five = "n0,0,0,0;n1,0,0,0;n2,0,0,0;n3,0,0,0;n4,0,0,0;";
        Object[][] texts = {
            {"", NONE}, {"r0,1;", NONE}, {"r23,60;", NONE}, {"r00,01;", NONE}, {"r24,1;", 0}, {"r0,0;", 0},
            {"r0,61;", 0}, {"r0;", 0}, {"r0,1,2;", 0}, {"r,1;", 0}, {"r1,;", 0}, {"r001,1;", 0}, {"r1,001;", 0},
            {"r0,12", 0}, {"r0,", 0}, {"r", 0}, {"R0,12;", 0}, {"0", 0}, {";", 0}, {",", 0}, {"q1,2;", 0},
            {" r0,12;", 0}, {"r0,12; ", 6}, {"r0,12;;", 6}, {"r0,12;r", 6}, {"r-1,12;", 0}, {"r0;12;", 0},
            {"r0,12,", 0}, {"r0,12;r24,12;", 6}, {"r0,12;r24,12;r0,0;", 6}, {"r0,1:", 0}, {"r/,1;", 0}, {"r:,1;", 0},
            {"r0,12;r1,13;p1,1;p2,2;", NONE},
            {"t0,0,1,0;", NONE}, {"t40,23,6,3;", NONE}, {"t41,0,1,0;", 0}, {"t0,24,1,0;", 0}, {"t0,0,0,0;", 0},
            {"t0,0,7,0;", 0}, {"t0,0,1,4;", 0}, {"t0,0,1;", 0}, {"t0,0,1,0,0;", 0}, {"t0,0,1,0", 0},
            {"n0,0,0,0;", NONE}, {"n23,3,99,99;", NONE}, {"n0,0,99,0;", NONE}, {"n24,0,0,0;", 0}, {"n0,4,0,0;", 0},
            {"n0,0,100,0;", 0}, {"n0,0,0,100;", 0}, {"n0,0,0;", 0}, {"n0,0,0,0,0;", 0},
            {"p0,0;", NONE}, {"p49,49;", NONE}, {"p50,0;", 0}, {"p0,50;", 0}, {"p1;", 0}, {"p1,1,1;", 0},
            {"p1,2;r3,4;t5,6,1,2;n7,2,9,10;", NONE}, {"p1,2;r3,4;t5,6,1,4;n7,2,9,10;", 10},
            {seven, NONE}, {seven + "r0,1;", NONE}, {seven + "t0,0,1,0;", 63}, {seven + "p0,0;t7,0,1,0;", 68},
            {five, NONE}, {five + "n5,0,0,0;", 45}, {five + "n5,0,5,0;", 45},
            {"r0,12;\u00f2" + "0,12;", 6}, {"\u00f4", 0}, {"r0\u0000,12;", 0},
        };
        for (Object[] told : texts) {
            ThrownHome x = new ThrownHome();
            Checks.tell(x, (String) told[0]);
            C.due("4 fault of " + told[0], x.fault(), (Integer) told[1]);
            C.due("4 nothing is laid by it: " + told[0], x.count(0), 2);
        }
        ThrownHome full = new ThrownHome();
        for (int k = 0; k < 60; k++) {
            Checks.tell(full, "p1,1;");
        }
        C.due("4 fault of a full text", full.fault(), NONE);
        C.due("4 a full text's last item", full.count(6), 300);
    }

    // Promise 5
    private static void lay() {
        ThrownHome x = new ThrownHome();
        x.aim(0, 5);
        x.keep();
        Checks.tell(x, "p3,4;r5,6;");
        C.due("5 lay without a throw", x.lay(), NO);
        counts("5 as it was", x, 2, 1, 0, 12, 1, 1, 10);
        Checks.tell(x, "t1,2,3,1;t0,9,1,0;n1,1,1,1;p9,9;r7,8;");
        C.due("5 lay", x.lay(), 2);
        counts("5", x, 2, 1, 7, 8, 0, 0, 47);
        row("5", x, 0, 1, 2, 3, 1);
        row("5", x, 1, 0, 9, 1, 0);
        C.due("5 price of the last p", x.price(2), 28);
        C.due("5 undo", x.undo(), NO);
        C.due("5 back", x.back(), NO);
        x.speed(1, 4);
        x.keep();
        Checks.tell(x, "t0,0,1");
        C.due("5 lay of a fault", x.lay(), NO);
        counts("5 as it was", x, 2, 1, 7, 8, 1, 1, 53);
        C.due("5 as it was", x.load(1, 2), 4);
        x.wipe();
        Checks.tell(x, "t3,0,1,0;");
        C.due("5 lay", x.lay(), 1);
        counts("5 without r, p, n", x, 1, 0, 0, 12, 0, 0, 9);
        C.due("5 price without p", x.price(10), 21);
        C.due("5 no net", x.load(0, 6), 1);
        C.due("5 lay again", x.lay(), 1);
    }

    // Promise 6
    private static void load() {
        ThrownHome x = Checks.laid("r5,20;t9,3,6,1;t9,20,4,2;t2,23,3,3;t9,2,1,0;n7,1,7,9;n2,0,14,14;p10,3;");
        // Day 2 first: to 5 + 23 = 4, the rock to 2; seven days, one farther by the drift: at 5 on day 9, no net.
        row("6", x, 2, 2, 23, 3, 3, 4, 2, 1, 9, 0);
        // Then day 9 as told: to 5 (the rock back 12, to 14), to 10 (it stays), to 16 (to 13).
        row("6", x, 0, 9, 3, 6, 1, 5, 14, 1, 13, 0);
        row("6", x, 1, 9, 20, 4, 2, 10, 14, 1, 14, 0);
        row("6", x, 3, 9, 2, 1, 0, 16, 13, 1, 29, 0);
        x.aim(2, 0);
        // To 5, one more by the drift: 6, no farther than 1 from the net at 7; 10 + 27 and 1.
        row("6 caught", x, 2, 2, 0, 3, 3, 5, 2, 0, 9, 38);
        x.aim(2, 2);
        row("6 at the net's other side", x, 2, 2, 2, 3, 3, 7, 2, 0, 9, 38);
        x.aim(2, 3);
        row("6 too far", x, 2, 2, 3, 3, 3, 8, 2, 1, 9, 0);
        x.move(2, 0);
        x.aim(2, 1);
        row("6 a net's first day", x, 2, 0, 1, 3, 3, 6, 2, 0, 7, 32);
        x.speed(2, 4);
        row("6 five days, too early", x, 2, 0, 1, 4, 3, 6, 1, 1, 5, 0);
        x.move(2, 5);
        row("6 a day too late", x, 2, 5, 1, 4, 3, 6, 1, 1, 10, 0);
        for (int i : new int[] {-1, 4, 7, LOW, HIGH}) {
            C.due("6 load(" + i + ", 0)", x.load(i, 0), BAD);
        }
        for (int what : new int[] {-1, 9, 10, LOW, HIGH}) {
            C.due("6 load(0, " + what + ")", x.load(0, what), BAD);
        }
        ThrownHome never = Checks.laid("t0,0,3,0;n0,3,5,3;");
        C.due("6 a net that is never out", never.load(0, 6), 1);
        ThrownHome round = Checks.laid("r23,12;t0,0,3,0;n2,3,0,99;");
        C.due("6 round the shorter way", round.load(0, 6), 0);
        ThrownHome cut = Checks.laid("r0,7;t0,22,1,3;n23,0,0,99;");
        C.due("6 seven days drift by one", cut.load(0, 6), 0);
        ThrownHome two = Checks.laid("r0,8;t0,22,1,3;n0,0,0,99;");
        C.due("6 eight days drift by two, past 23", two.load(0, 6), 0);
        C.due("6 thrown to", two.load(0, 4), 22);
        ThrownHome late = Checks.laid("r0,60;t40,0,1,0;n0,3,0,99;");
        row("6 behind the last day of a net", late, 0, 40, 0, 1, 0, 0, 23, 1, 100, 0);
        ThrownHome days = Checks.laid("r0,60;t9,0,1,0;t5,0,2,0;t7,0,3,0;t3,0,4,0;t7,0,5,0;t5,0,6,0;");
        int[] behind = {3, 18, 9, 20, 4, 12};
        for (int i = 0; i < behind.length; i++) {
            C.due("6 by days, as told on one", days.load(i, 5), behind[i]);
        }
    }

    // Promise 6, HOW and WHEN of those that meet
    private static void loadsThatMeet() {
        ThrownHome x = Checks.laid(ONE_LOST_EARLY + "n0,0,0,99;");
        row("6 met", x, 0, 0, 0, 2, 2, 0, 0, 2, 3, 0);
        row("6 met", x, 1, 1, 0, 3, 2, 0, 0, 2, 3, 0);
        row("6 who is lost meets nobody", x, 2, 3, 0, 6, 2, 0, 0, 0, 7, 50);
        ThrownHome three = Checks.laid("r0,7;" + THREE_ALIKE);
        for (int i = 0; i < 3; i++) {
            C.due("6 three alike", three.load(i, 6), 2);
            C.due("6 three alike", three.load(i, 7), 3);
        }
        ThrownHome home = Checks.laid("r0,6;" + THREE_ALIKE);
        for (int i = 0; i < 3; i++) {
            C.due("6 home is no place to meet", home.load(i, 6), 1);
            C.due("6 home is no place to meet", home.load(i, 7), 3);
        }
        ThrownHome start = Checks.laid("t5,0,1,2;t5,0,6,3;");
        C.due("6 met where they are thrown", start.load(0, 7), 5);
        C.due("6 met where they are thrown", start.load(1, 6), 2);
        ThrownHome same = Checks.laid("r0,60;t5,0,1,2;t6,0,1,0;t7,2,1,0;");
        C.due("6 of one speed, on two days", same.all(2), 0);
        ThrownHome passing = Checks.laid("r0,60;t0,0,2,2;t3,0,6,2;");
        C.due("6 between two days nobody meets", passing.all(2), 0);
        ThrownHome drift = Checks.laid("r0,60;t0,0,2,3;t1,2,3,2;t1,5,3,2;");
        C.due("6 a drifting one meets on its first line", drift.load(0, 7), 3);
        C.due("6 a drifting one meets on its first line", drift.load(1, 6), 2);
        C.due("6 another place", drift.load(2, 6), 1);
        // The third would meet the second on day 5, were it not lost; the others go on meeting on day 5 and 6.
        ThrownHome fifth = Checks.laid(ONE_LOST_EARLY + "t0,1,2,2;t3,1,5,2;");
        C.due("6 others meet on that day", fifth.load(2, 6), 1);
        C.due("6 others meet on that day", fifth.load(3, 7), 5);
        C.due("6 others meet on that day", fifth.load(1, 7), 3);
        ThrownHome sixth = Checks.laid(ONE_LOST_EARLY + "t0,1,2,2;t4,1,6,2;");
        C.due("6 others meet later", sixth.load(2, 6), 1);
        C.due("6 others meet later", sixth.load(3, 7), 6);
        C.due("6 others meet later", sixth.load(4, 6), 2);
        ThrownHome unpaid = new ThrownHome();
        C.due("6 paid", unpaid.load(0, 8), 29);
        unpaid.move(0, 1);
        C.due("6 met, not paid", unpaid.load(0, 8), 0);
        C.due("6 met, not paid", unpaid.all(3), 0);
    }

    // Promise 7
    private static void far() {
        ThrownHome x = new ThrownHome();
        int[] want = {0, 3, 6, 9, NONE, NONE};
        for (int t = 0; t < want.length; t++) {
            C.due("7 far(0, " + t + ")", x.far(0, t), want[t]);
            C.due("7 far(1, " + (t + 1) + ")", x.far(1, t + 1), want[t]);
        }
        C.due("7 not thrown", x.far(1, 0), NONE);
        C.due("7 far(0, 99)", x.far(0, 99), NONE);
        C.due("7 far(-1, 0)", x.far(-1, 0), BAD);
        C.due("7 far(2, 0)", x.far(2, 0), BAD);
        C.due("7 far(HIGH, 0)", x.far(HIGH, 0), BAD);
        C.due("7 far(0, -1)", x.far(0, -1), BAD);
        C.due("7 far(0, 100)", x.far(0, 100), BAD);
        C.due("7 far(0, LOW)", x.far(0, LOW), BAD);
        ThrownHome lost = Checks.laid(ONE_LOST_EARLY);
        C.due("7 before it is lost", lost.far(0, 2), 4);
        C.due("7 lost", lost.far(0, 3), NONE);
        C.due("7 lost", lost.far(1, 4), NONE);
        C.due("7 not lost", lost.far(2, 6), 18);
        C.due("7 home", lost.far(2, 7), NONE);
        C.due("7 the last day", Checks.laid("r0,60;t40,0,1,0;").far(0, 99), 59);
    }

    // Promise 8
    private static void rock() {
        ThrownHome x = Checks.laid("r5,20;t9,3,6,1;t9,20,4,2;t2,23,3,3;t11,2,1,0;");
        int[] days = {0, 1, 2, 8, 9, 10, 11, 99};
        int[] want = {5, 5, 2, 2, 14, 14, 13, 13};
        for (int k = 0; k < days.length; k++) {
            C.due("8 rock(" + days[k] + ")", x.rock(days[k]), want[k]);
        }
        x.move(3, 0);
        C.due("8 done earlier", x.rock(0), 4);
        C.due("8 done earlier", x.rock(99), 13);
        C.due("8 rock(-1)", x.rock(-1), BAD);
        C.due("8 rock(100)", x.rock(100), BAD);
        C.due("8 rock(HIGH)", x.rock(HIGH), BAD);
        C.due("8 rock(LOW)", x.rock(LOW), BAD);
    }

    // Promise 9
    private static void price() {
        ThrownHome x = Checks.laid("t0,0,1,0;p49,49;");
        C.due("9 price(0)", x.price(0), 50);
        C.due("9 price(1)", x.price(1), 49);
        C.due("9 price(99)", x.price(99), 1);
        C.due("9 price(-1)", x.price(-1), BAD);
        C.due("9 price(100)", x.price(100), BAD);
        C.due("9 price(LOW)", x.price(LOW), BAD);
        C.due("9 price(HIGH)", x.price(HIGH), BAD);
        C.due("9 as no text tells", new ThrownHome().price(7), 50);
        C.due("9 as no text tells", new ThrownHome().price(8), 7);
        C.due("9 always the same", Checks.laid("t0,0,1,0;p8,0;").price(77), 9);
    }

    // Promise 10
    private static void all() {
        ThrownHome x = Checks.laid(ONE_LOST_EARLY + "t20,1,1,2;t0,5,1,2;n0,1,0,99;p1,1;");
        C.due("10 caught", x.all(0), 2);
        C.due("10 missed", x.all(1), 1);
        C.due("10 met", x.all(2), 2);
        C.due("10 paid", x.all(3), 9 + 42);
        C.due("10 all(-1)", x.all(-1), BAD);
        C.due("10 all(4)", x.all(4), BAD);
        C.due("10 all(LOW)", x.all(LOW), BAD);
        C.due("10 all(HIGH)", x.all(HIGH), BAD);
    }

    // Promise 11
    private static void aim() {
        ThrownHome x = new ThrownHome();
        C.due("11 aim(0, 23)", x.aim(0, 23), 0);
        C.due("11 aim(0, 0)", x.aim(0, 0), 23);
        C.due("11 aim(1, 3), the same", x.aim(1, 3), 3);
        C.due("11 as many to undo", x.count(4), 3);
        C.due("11 aim(1, 7)", x.aim(1, 7), 3);
        row("11", x, 1, 1, 7, 3, 0, 4, 18, 1, 5, 0);
        C.due("11 aim(-1, 0)", x.aim(-1, 0), BAD);
        C.due("11 aim(2, 0)", x.aim(2, 0), BAD);
        C.due("11 aim(0, -1)", x.aim(0, -1), BAD);
        C.due("11 aim(0, 24)", x.aim(0, 24), BAD);
        C.due("11 aim(LOW, HIGH)", x.aim(LOW, HIGH), BAD);
        C.due("11 nothing to undo by BAD", x.count(4), 4);
    }

    // Promise 12
    private static void move() {
        ThrownHome x = new ThrownHome();
        C.due("12 move(0, 40)", x.move(0, 40), 0);
        row("12 the other one first", x, 1, 1, 3, 3, 0, 3, 21, 1, 5, 0);
        row("12 then this one", x, 0, 40, 0, 3, 0, 21, 18, 1, 44, 0);
        C.due("12 move(0, 1)", x.move(0, 1), 40);
        row("12 as told on one day", x, 0, 1, 0, 3, 0, 0, 21, 2, 1, 0);
        C.due("12 move(0, 1), the same", x.move(0, 1), 1);
        C.due("12 as many to undo", x.count(4), 3);
        C.due("12 move(0, 41)", x.move(0, 41), BAD);
        C.due("12 move(0, -1)", x.move(0, -1), BAD);
        C.due("12 move(2, 0)", x.move(2, 0), BAD);
        C.due("12 move(-1, 0)", x.move(-1, 0), BAD);
        C.due("12 move(HIGH, LOW)", x.move(HIGH, LOW), BAD);
        C.due("12 nothing to undo by BAD", x.count(4), 3);
    }

    // Promise 13
    private static void speed() {
        ThrownHome x = new ThrownHome();
        C.due("13 speed(0, 6)", x.speed(0, 6), 3);
        row("13", x, 0, 0, 0, 6, 0, 0, 18, 0, 2, 15);
        row("13 the rock is turned more", x, 1, 1, 3, 3, 0, 21, 15, 1, 5, 0);
        C.due("13 speed(0, 1)", x.speed(0, 1), 6);
        C.due("13 speed(0, 1), the same", x.speed(0, 1), 1);
        C.due("13 as many to undo", x.count(4), 3);
        C.due("13 speed(0, 0)", x.speed(0, 0), BAD);
        C.due("13 speed(0, 7)", x.speed(0, 7), BAD);
        C.due("13 speed(2, 1)", x.speed(2, 1), BAD);
        C.due("13 speed(-1, 1)", x.speed(-1, 1), BAD);
        C.due("13 speed(LOW, LOW)", x.speed(LOW, LOW), BAD);
        C.due("13 nothing to undo by BAD", x.count(4), 3);
    }

    // Promise 14
    private static void undo() {
        ThrownHome x = new ThrownHome();
        C.due("14 undo of none", x.undo(), NO);
        x.aim(0, 5);
        x.aim(0, 5);
        x.move(1, 9);
        x.speed(0, 2);
        C.due("14 undo speed", x.undo(), 3);
        row("14", x, 0, 0, 5, 3);
        C.due("14 undo move", x.undo(), 2);
        row("14", x, 1, 1, 3, 3);
        C.due("14 undo of no change", x.undo(), 1);
        row("14", x, 0, 0, 5, 3);
        C.due("14 undo aim", x.undo(), 0);
        row("14", x, 0, 0, 0, 3);
        C.due("14 undo of none", x.undo(), NO);
        for (int k = 1; k <= 10; k++) {
            x.aim(1, k);
            C.due("14 can be undone", x.count(4), Math.min(k, 8));
        }
        for (int k = 9; k >= 2; k--) {
            C.due("14 undo", x.undo(), k - 2);
            C.due("14 aim undone", x.load(1, 1), k);
        }
        C.due("14 only eight", x.undo(), NO);
        C.due("14 the ninth stays", x.load(1, 1), 2);
        ThrownHome many = new ThrownHome();
        for (int k = 0; k < 3; k++) {
            many.aim(0, 10 + k);
            many.move(1, 20 + k);
            many.speed(0, 4 + k);
        }
        // Nine changes: the first aim can't be undone.
        int[][] then = {{12, 22, 5}, {12, 21, 5}, {11, 21, 5}, {11, 21, 4}, {11, 20, 4}, {10, 20, 4}, {10, 20, 3}, {10, 1, 3}};
        for (int k = 0; k < 8; k++) {
            C.due("14 undo of nine", many.undo(), 7 - k);
            C.due("14 undo of nine, aim", many.load(0, 1), then[k][0]);
            C.due("14 undo of nine, day", many.load(1, 0), then[k][1]);
            C.due("14 undo of nine, speed", many.load(0, 2), then[k][2]);
        }
        C.due("14 undo of nine", many.undo(), NO);
    }

    // Promise 15
    private static void bestAim() {
        ThrownHome x = Checks.laid("r3,12;t0,0,3,0;t1,3,3,0;n6,1,4,4;n3,0,5,5;");
        C.due("15 the lowest of three", x.bestAim(0, 0), 2);
        C.due("15 how many", x.bestAim(0, 1), 2);
        C.due("15 nothing changes", x.load(0, 1), 0);
        C.due("15 nothing to undo", x.count(4), 0);
        ThrownHome none = Checks.laid("t0,9,3,0;");
        C.due("15 of none the lowest", none.bestAim(0, 0), 0);
        C.due("15 of none", none.bestAim(0, 1), 0);
        ThrownHome lost = Checks.laid("t0,0,3,2;t0,0,3,2;n0,1,0,99;");
        C.due("15 aimed so that they don't meet", lost.bestAim(1, 0), 1);
        C.due("15 aimed so that they don't meet", lost.bestAim(1, 1), 2);
        C.due("15 bestAim(2, 0)", x.bestAim(2, 0), BAD);
        C.due("15 bestAim(-1, 0)", x.bestAim(-1, 0), BAD);
        C.due("15 bestAim(0, 2)", x.bestAim(0, 2), BAD);
        C.due("15 bestAim(0, -1)", x.bestAim(0, -1), BAD);
        // What was changed counts, and the text of another rock, not laid, does not.
        x.aim(1, 0);
        Checks.tell(x, "r9,9;t9,9,1,1;");
        C.due("15 fault between", x.fault(), NONE);
        C.due("15 as it is now", x.bestAim(0, 0), 2);
        C.due("15 as it is now", x.bestAim(0, 1), 1);
    }

    // Promise 16
    private static void bestDay() {
        ThrownHome x = Checks.laid("t9,0,3,0;n0,0,10,20;p0,1;");
        C.due("16 the day of the best price", x.bestDay(0, 0), 16);
        C.due("16 how much", x.bestDay(0, 1), 21);
        C.due("16 nothing changes", x.load(0, 0), 9);
        C.due("16 nothing to undo", x.count(4), 0);
        ThrownHome same = Checks.laid("t9,0,3,0;n0,0,10,20;p4,0;");
        C.due("16 of several the lowest", same.bestDay(0, 0), 6);
        C.due("16 how much", same.bestDay(0, 1), 5);
        ThrownHome last = Checks.laid("t9,0,3,0;n0,0,44,99;p4,0;");
        C.due("16 the last day", last.bestDay(0, 0), 40);
        ThrownHome cheap = Checks.laid("t9,0,3,0;n0,0,10,20;p0,0;");
        C.due("16 by the lowest price", cheap.bestDay(0, 0), 6);
        C.due("16 by the lowest price", cheap.bestDay(0, 1), 1);
        ThrownHome none = Checks.laid("t9,0,3,0;n0,0,45,99;n0,0,0,3;n1,0,0,99;");
        C.due("16 never", none.bestDay(0, 0), NONE);
        C.due("16 never", none.bestDay(0, 1), NONE);
        C.due("16 BAD before NONE", none.bestDay(0, 2), BAD);
        C.due("16 bestDay(1, 0)", x.bestDay(1, 0), BAD);
        C.due("16 bestDay(-1, 0)", x.bestDay(-1, 0), BAD);
        C.due("16 bestDay(0, -1)", x.bestDay(0, -1), BAD);
        C.due("16 bestDay(0, 2)", x.bestDay(0, 2), BAD);
        // The other one's load is paid more if this one waits, but its own price counts.
        ThrownHome own = Checks.laid("t0,0,3,0;t1,3,3,0;n0,0,0,99;p0,1;");
        C.due("16 its own price", own.bestDay(0, 0), 0);
        C.due("16 its own price", own.bestDay(0, 1), 5);
        own.aim(0, 3);
        Checks.tell(own, "r9,9;t9,9,1,1;");
        C.due("16 fault between", own.fault(), NONE);
        // Behind the other's turning, from 21, it is thrown to 0.
        C.due("16 as it is now", own.bestDay(0, 0), 40);
        C.due("16 as it is now", own.bestDay(0, 1), 45);
    }

    // Promise 17
    private static void net() {
        ThrownHome x = Checks.laid("t0,4,3,2;t0,9,3,2;t0,10,3,2;t0,23,3,2;n23,0,0,99;");
        C.due("17 w 0", x.net(0, 0), 4);
        C.due("17 w 0", x.net(0, 1), 2);
        C.due("17 w 1", x.net(1, 0), 9);
        C.due("17 w 1", x.net(1, 1), 3);
        C.due("17 w 3", x.net(3, 0), 7);
        C.due("17 w 3", x.net(3, 1), 4);
        C.due("17 nothing changes", x.count(1), 1);
        ThrownHome all = new ThrownHome();
        C.due("17 all are caught", all.net(2, 0), 0);
        C.due("17 all are caught", all.net(2, 1), 2);
        ThrownHome round = Checks.laid("t0,22,3,2;t0,1,3,2;");
        C.due("17 round", round.net(2, 0), 0);
        C.due("17 round", round.net(2, 1), 2);
        ThrownHome met = Checks.laid("t0,5,3,2;t0,5,3,2;t0,8,3,2;");
        C.due("17 who is lost is not caught", met.net(0, 0), 8);
        C.due("17 who is lost is not caught", met.net(0, 1), 1);
        ThrownHome five = Checks.laid("t0,5,3,2;n0,0,0,0;n0,0,0,0;n0,0,0,0;n0,0,0,0;n0,0,0,0;");
        C.due("17 a sixth net", five.net(0, 0), 5);
        ThrownHome late = Checks.laid("r0,60;t40,0,1,3;");
        C.due("17 on all days, where it drifts to", late.net(0, 0), 15);
        C.due("17 on all days, where it drifts to", late.net(0, 1), 1);
        C.due("17 net(-1, 0)", x.net(-1, 0), BAD);
        C.due("17 net(4, 0)", x.net(4, 0), BAD);
        C.due("17 net(0, -1)", x.net(0, -1), BAD);
        C.due("17 net(0, 2)", x.net(0, 2), BAD);
    }

    // Promise 18
    private static void clear() {
        C.due("18 none meet", new ThrownHome().clear(), 0);
        C.due("18 one of two", Checks.laid("t5,0,1,2;t5,0,6,3;").clear(), 1);
        C.due("18 two of three", Checks.laid("r0,7;" + THREE_ALIKE).clear(), 3);
        String seven = "t4,0,1,2;t4,0,2,2;t4,0,3,2;t4,0,4,2;t4,0,5,2;t4,0,6,2;t4,0,1,2;";
        C.due("18 six of seven", Checks.laid(seven).clear(), 63);
        C.due("18 the one that two others meet", Checks.laid(ONE_LOST_EARLY).clear(), 2);
        // Without the first one the rock stands otherwise, and the two others are thrown apart or together.
        ThrownHome turned = Checks.laid("r0,60;t0,0,3,0;t1,3,3,0;t2,5,1,2;t2,5,1,2;");
        C.due("18 nothing changes", turned.count(0), 4);
        C.due("18 of several the lowest", turned.clear(), 4);
        // The one that is left out turns nothing: without 0 both would be thrown to 3 and meet.
        ThrownHome apart = Checks.laid("r3,60;t0,0,3,0;t0,3,1,2;t0,3,2,2;");
        C.due("18 left out, the rock is not turned", apart.clear(), 3);
        C.due("18 nothing changes", apart.load(1, 6), 2);
    }

    // Promise 19
    private static void stray() {
        ThrownHome x = Checks.laid("r0,20;t0,0,2,2;t1,0,3,2;t3,0,6,2;t2,0,6,2;t3,1,6,2;");
        C.due("19 on its way", x.stray(4, 0, 2), 1);
        C.due("19 on its way", x.stray(3, 0, 2), 2);
        C.due("19 on its first day", x.stray(0, 0, 2), 8);
        C.due("19 another place", x.stray(6, 1, 4), 16);
        C.due("19 not thrown", x.stray(0, 1, 2), 0);
        C.due("19 lost on that day", x.stray(6, 0, 3), 0);
        C.due("19 not lost", x.stray(6, 0, 4), 4);
        C.due("19 home", x.stray(24, 0, 7), 0);
        C.due("19 nobody", x.stray(60, 23, 99), 0);
        ThrownHome two = Checks.laid("r0,20;t0,0,2,2;t1,0,3,2;t0,0,3,2;");
        C.due("19 both met at once", two.stray(0, 0, 0), 0);
        // They pass between days, so both are seen, but never at one place: equal ones would meet.
        ThrownHome drift = Checks.laid("r0,60;t0,7,1,3;");
        C.due("19 a drifting one", drift.stray(50, 7, 50), 1);
        C.due("19 the last day", Checks.laid("r0,60;t40,0,1,0;").stray(59, 0, 99), 1);
        int[][] bad = {{-1, 0, 0}, {61, 0, 0}, {0, -1, 0}, {0, 24, 0}, {0, 0, -1}, {0, 0, 100}, {LOW, HIGH, LOW}};
        for (int[] b : bad) {
            C.due("19 wrong numbers", x.stray(b[0], b[1], b[2]), BAD);
        }
    }

    // Promise 20
    private static void meeters() {
        ThrownHome x = new ThrownHome();
        C.due("20 how many", x.meeters(0, 0), 7);
        C.due("20 the first", x.meeters(0, 1), 1);
        // It is 6 far on day 3, as speed 2 from day 0 and speed 6 from day 2; the others are those of its own day.
        C.due("20 how many", x.meeters(1, 0), 8);
        C.due("20 the first", x.meeters(1, 1), 2);
        ThrownHome last = Checks.laid("r0,60;t40,0,1,0;");
        C.due("20 on the last day", last.meeters(0, 0), 6);
        C.due("20 on the last day", last.meeters(0, 1), 401);
        // It is lost on day 3, but as if there were no others it is met later too.
        ThrownHome lost = Checks.laid(ONE_LOST_EARLY);
        ThrownHome alone = Checks.laid("r0,20;t0,0,2,2;");
        C.due("20 as if there were no others", lost.meeters(0, 0), alone.meeters(0, 0));
        // From day 0 all; from day 1 speeds 3 (on day 3), 4 (2); from 2: 3 (6), 4 (4), 6 (3); from 3: 3 (9), 4 (6), 5 (5);
        // from 4: 4 (8), 6 (6); from 6: 6 (9).
        C.due("20 counted by hand", alone.meeters(0, 0), 6 + 2 + 3 + 3 + 2 + 1);
        C.due("20 meeters(1, 0)", alone.meeters(1, 0), BAD);
        C.due("20 meeters(-1, 0)", alone.meeters(-1, 0), BAD);
        C.due("20 meeters(0, 2)", alone.meeters(0, 2), BAD);
        C.due("20 meeters(0, -1)", alone.meeters(0, -1), BAD);
    }

    // Promise 21
    private static void stand() {
        ThrownHome x = new ThrownHome();
        C.due("21 it stands there", x.stand(18, 63, 0), 0);
        C.due("21 it stands there", x.stand(18, 63, 1), NONE);
        C.due("21 one", x.stand(17, 63, 0), 1);
        C.due("21 one", x.stand(17, 63, 1), 1);
        C.due("21 round", x.stand(19, 63, 0), 4);
        C.due("21 round, 23 back: 5, 6, 6, 6", x.stand(19, 63, 1), 5);
        C.due("21 seven back by 1, 4 and 6", x.stand(11, 41, 0), 2);
        C.due("21 seven back: 1 and 6", x.stand(11, 41, 1), 1);
        C.due("21 by 1 alone", x.stand(19, 1, 0), 23);
        C.due("21 by 5 alone, more than 7 throws", x.stand(19, 16, 0), 19);
        C.due("21 by 5 alone", x.stand(19, 16, 1), 5);
        C.due("21 no way", x.stand(19, 2, 0), NONE);
        C.due("21 no way", x.stand(19, 2, 1), NONE);
        C.due("21 nothing changes", x.count(0), 2);
        int[][] bad = {{-1, 1, 0}, {24, 1, 0}, {0, 0, 0}, {0, 64, 0}, {0, -1, 0}, {0, 1, -1}, {0, 1, 2}, {19, 2, 2}, {LOW, HIGH, HIGH}};
        for (int[] b : bad) {
            C.due("21 wrong numbers", x.stand(b[0], b[1], b[2]), BAD);
        }
        ThrownHome spite = Checks.laid("r0,12;t3,0,6,1;t4,0,6,2;");
        C.due("21 behind all others", spite.stand(9, 4, 0), 1);
        C.due("21 to 0", x.stand(0, 32, 0), 3);
        C.due("21 to 0, the highest speed", x.stand(0, 32, 1), 6);
        C.due("21 to 23", x.stand(23, 63, 0), 4);
    }

    // Promise 22
    private static void odds() {
        ThrownHome x = new ThrownHome();
        long[][] want = {
            {0, 0, 1, 1}, {0, 10, 1, 1}, {1, 0, 0, 1}, {1, 10, 1, 1}, {1, 5, 1, 2}, {1, 4, 2, 5}, {2, 5, 3, 4},
            {2, 1, 19, 100}, {3, 5, 1, 2}, {4, 5, 11, 16}, {9, 5, 1, 2}, {9, 10, 1, 1}, {9, 0, 0, 1}, {3, 2, 13, 125},
            {9, 7, 45059567, 50000000},
        };
        for (long[] w : want) {
            C.due("22 odds(" + w[0] + ", " + w[1] + ", 0)", x.odds((int) w[0], (int) w[1], 0), w[2]);
            C.due("22 odds(" + w[0] + ", " + w[1] + ", 1)", x.odds((int) w[0], (int) w[1], 1), w[3]);
        }
        int[][] bad = {{-1, 5, 0}, {10, 5, 0}, {1, -1, 0}, {1, 11, 0}, {1, 5, -1}, {1, 5, 2}, {HIGH, LOW, HIGH}};
        for (int[] b : bad) {
            C.due("22 wrong numbers", x.odds(b[0], b[1], b[2]), BAD);
        }
    }

    // Promise 23
    private static void year() {
        // By z = 0: THROW 0 is aimed by 1; x = 6152 for THROW 1: 37847104 modulo 65521 is 41487, that modulo 24 is 15.
        ThrownHome x = Checks.laid("r0,12;t0,7,3,2;t1,8,3,0;n1,0,4,4;n15,0,5,5;p0,1;");
        C.due("23 caught", x.year(0, 0), 2);
        C.due("23 paid", x.year(0, 1), 5 + 6);
        C.due("23 where it stands", x.year(0, 2), 21);
        C.due("23 nothing changes", x.load(0, 1), 7);
        C.due("23 nothing changes", x.load(1, 1), 8);
        C.due("23 nothing to undo", x.count(4), 0);
        x.speed(0, 6);
        Checks.tell(x, "r9,9;t9,9,1,1;");
        C.due("23 fault between", x.fault(), NONE);
        C.due("23 as it is now", x.year(0, 1), 6);
        C.due("23 as it is now", x.year(0, 2), 21);
        // By z = 9999: x is 79182082, its square modulo 65521 is told by Math here.
        long big = 7919L * 9999 + 1;
        int aim = (int) (big * big % 65521 % 24);
        for (int place = 0; place < 24; place++) {
            ThrownHome y = Checks.laid("t0,0,3,0;n" + place + ",0,4,4;");
            C.due("23 year 9999, net at " + place, y.year(9999, 0), place == aim ? 1 : 0);
            C.due("23 year 9999, net at " + place, y.year(9999, 1), place == aim ? 29 : 0);
        }
        int[][] bad = {{-1, 0}, {10000, 0}, {0, -1}, {0, 3}, {LOW, HIGH}};
        for (int[] b : bad) {
            C.due("23 wrong numbers", x.year(b[0], b[1]), BAD);
        }
    }

    // Promise 24
    private static void keep() {
        ThrownHome x = new ThrownHome();
        x.aim(0, 1);
        C.due("24 keep", x.keep(), 1);
        C.due("24 what can be undone stays", x.count(4), 1);
        x.aim(0, 2);
        C.due("24 keep", x.keep(), 2);
        x.aim(0, 3);
        C.due("24 a third", x.keep(), FULL);
        C.due("24 two are kept", x.count(5), 2);
        C.due("24 the throws stay", x.load(0, 1), 3);
        x.back();
        C.due("24 the third was not kept", x.load(0, 1), 2);
        C.due("24 room again", x.keep(), 2);
    }

    // Promise 25
    private static void back() {
        ThrownHome x = new ThrownHome();
        C.due("25 none is kept", x.back(), NO);
        x.move(0, 7);
        C.due("25 NO changes nothing", x.back(), NO);
        C.due("25 NO changes nothing", x.count(4), 1);
        x.keep();
        x.aim(1, 9);
        x.speed(1, 1);
        x.move(0, 8);
        x.keep();
        x.move(1, 30);
        C.due("25 the last one", x.back(), 1);
        row("25", x, 0, 8, 0, 3, 0);
        row("25", x, 1, 1, 9, 1, 0);
        C.due("25 nothing is undone then", x.count(4), 0);
        C.due("25 nothing is undone then", x.undo(), NO);
        C.due("25 the first one", x.back(), 0);
        row("25", x, 0, 7, 0, 3, 0);
        row("25", x, 1, 1, 3, 3, 0);
        C.due("25 none is left", x.back(), NO);
    }

    // Promise 26
    private static void count() {
        ThrownHome x = Checks.laid("r9,33;t0,0,1,0;t0,1,1,0;t0,2,1,0;n0,0,0,0;n0,0,0,0;");
        x.aim(0, 1);
        x.move(0, 1);
        x.keep();
        counts("26", x, 3, 2, 9, 33, 2, 1, 51);
        for (int what : new int[] {-1, 7, LOW, HIGH}) {
            C.due("26 count(" + what + ")", x.count(what), BAD);
        }
    }
}
