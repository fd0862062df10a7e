import java.util.function.Supplier;
import java.util.function.ToLongFunction;

/** Promise by promise: the last number that is told and the first that is none, and that nothing changes by a refusal. */
final class PromiseBoundsTest {
    private static final Checks C = new Checks();
    private static final int BAD = -1, NO = -2, FULL = -3, NONE = -4;
    private static final int LOW = Integer.MIN_VALUE, HIGH = Integer.MAX_VALUE;
    private static final String SEVEN = "t0,0,1,2;t1,1,2,2;t2,2,3,2;t3,3,4,2;t4,4,5,2;t5,5,6,2;t6,6,1,2;";

    private interface Numbers {
        long on(ThrownHome x, int number);
    }

    public static void main(String[] args) {
        C.runAll(PromiseBoundsTest.class);
    }

    /** Every number from low to high is told; the ones next to these, and those far off, are BAD and change nothing. */
    private static void told(String call, int low, int high, Numbers asked) {
        for (int number = low; number <= high; number++) {
            C.due(call + " of " + number + " is BAD", asked.on(Whole.rich(), number) == BAD ? 1 : 0, 0);
        }
        for (int number : new int[] {low - 1, high + 1, low - 2, high + 2, low - 256, high + 256, -1, -100, 1000, LOW, HIGH}) {
            Whole.refused(C, call + " of " + number, Whole::rich, x -> asked.on(x, number), BAD);
            Whole.refused(C, call + " of " + number, Whole::full, x -> asked.on(x, number), BAD);
        }
    }

    /** THROWS: such as there are, of one, two, three and seven. */
    private static void throwsTold(String call, Numbers asked) {
        int[] many = {1, 2, 3, 7};
        for (int n : many) {
            Supplier<ThrownHome> maker = () -> Checks.laid(SEVEN.substring(0, 9 * n));
            for (int i = 0; i < n; i++) {
                C.due(call + " of throw " + i + " of " + n + " is BAD", asked.on(maker.get(), i) == BAD ? 1 : 0, 0);
            }
            for (int i : new int[] {-1, n, n + 1, 7, 8, LOW, HIGH}) {
                Whole.refused(C, call + " of throw " + i + " of " + n, maker, x -> asked.on(x, i), BAD);
            }
        }
    }

    private static void refused(String name, Supplier<ThrownHome> maker, ToLongFunction<ThrownHome> call, long want) {
        Whole.refused(C, name, maker, call, want);
    }

    private static void asks(String name, ToLongFunction<ThrownHome> call) {
        Whole.asks(C, name + " on a new object", ThrownHome::new, call);
        Whole.asks(C, name, Whole::rich, call);
        Whole.asks(C, name + " on a full object", Whole::full, call);
    }

    private static void counts(ThrownHome x, int... want) {
        for (int what = 0; what < want.length; what++) {
            C.due("count(" + what + ")", x.count(what), want[what]);
        }
    }

    // ---- Promise 1: A new object

    static void promise01_newObject_asTold() {
        ThrownHome x = new ThrownHome();
        counts(x, 2, 1, 0, 12, 0, 0, 0);
        int[][] want = {{0, 0, 3, 0, 0, 21, 0, 4, 29}, {1, 3, 3, 0, 0, 18, 0, 5, 36}};
        for (int i = 0; i < 2; i++) {
            for (int what = 0; what <= 8; what++) {
                C.due("load(" + i + ", " + what + ")", x.load(i, what), want[i][what]);
            }
        }
        C.due("a third throw", x.load(2, 0), BAD);
    }

    static void promise01_newObject_theNetIsAt0From0To99() {
        ThrownHome x = new ThrownHome();
        C.due("at 0", x.load(0, 6), 0);
        x.aim(0, 1);
        C.due("not at 1", x.load(0, 6), 1);
        x.aim(0, 23);
        C.due("not at 23", x.load(0, 6), 1);
        ThrownHome late = new ThrownHome();
        late.aim(0, 3);
        late.move(0, 40);
        late.speed(0, 1);
        C.due("out on day 52", late.load(0, 7), 52);
        C.due("out on day 52", late.load(0, 6), 0);
    }

    static void promise01_newObject_theTextIsEmpty() {
        C.due("bytes", new ThrownHome().count(6), 0);
        C.due("fault", new ThrownHome().fault(), NONE);
        C.due("wipe", new ThrownHome().wipe(), 0);
        refused("lay", ThrownHome::new, ThrownHome::lay, NO);
    }

    static void promise01_newObject_nothingUndoneNothingKept() {
        refused("undo", ThrownHome::new, ThrownHome::undo, NO);
        refused("back", ThrownHome::new, ThrownHome::back, NO);
    }

    static void promise01_newObject_eachOfItsOwn() {
        ThrownHome one = Whole.full();
        ThrownHome other = new ThrownHome();
        C.due("another object", Whole.seen(other).equals(Whole.seen(new ThrownHome())) ? 1 : 0, 1);
        C.due("the first", Whole.seen(one).equals(Whole.seen(Whole.full())) ? 1 : 0, 1);
    }

    // ---- Promise 2: write

    static void promise02_write_1To8Bytes() {
        for (int n = 1; n <= 8; n++) {
            C.due("write(" + n + ")", new ThrownHome().write(n, -1L), n);
            ThrownHome x = Checks.told("abc");
            C.due("behind three", x.write(n, 0L), n + 3);
            C.due("behind three", x.count(6), n + 3);
        }
        for (int n : new int[] {0, 9, 10, 16, 64, -1, -8, 256, 257, LOW, HIGH}) {
            refused("write(" + n + ")", ThrownHome::new, x -> x.write(n, 0x74L), BAD);
            refused("write(" + n + ")", Whole::rich, x -> x.write(n, 0x74L), BAD);
            refused("write(" + n + ") on a full text", Whole::full, x -> x.write(n, 0x74L), BAD);
        }
    }

    static void promise02_write_theLowestBytesTheHighestFirst() {
        // "p1,1;" in all lengths of calls; ahead of its bytes in v are others, which are not written.
        String item = "p12,34;";
        for (int n = 1; n <= 7; n++) {
            ThrownHome x = new ThrownHome();
            for (int from = 0; from < 7; from += n) {
                int many = Math.min(n, 7 - from);
                x.write(many, Checks.number(item.getBytes(), from, many) | -1L << 8 * many);
            }
            x.write(8, Checks.number("t0,0,1,0".getBytes(), 0, 8));
            x.write(1, 0x7FFFFFFFFFFFFF00L | ';');
            C.due("by " + n + ", lay", x.lay(), 1);
            C.due("by " + n + ", price", x.price(1), 47);
        }
        ThrownHome turned = new ThrownHome();
        turned.write(6, 0x3b312c303072L);
        C.due("the lowest first is none", turned.fault(), 0);
    }

    static void promise02_write_anyV() {
        for (long v : new long[] {0, 1, -1, Long.MIN_VALUE, Long.MAX_VALUE}) {
            C.due("write(8, " + v + ")", new ThrownHome().write(8, v), 8);
            ThrownHome x = new ThrownHome();
            x.write(8, v);
            C.due("fault", x.fault(), 0);
        }
    }

    static void promise02_write_fullBehind300() {
        for (int n = 1; n <= 8; n++) {
            int bytes = n;
            Supplier<ThrownHome> fits = () -> Checks.told("x".repeat(300 - bytes));
            Supplier<ThrownHome> over = () -> Checks.told("x".repeat(301 - bytes));
            C.due("the last " + n, fits.get().write(n, 0), 300);
            refused("one byte too many by " + n, over, x -> x.write(bytes, 0), FULL);
            refused("on 300 bytes by " + n, () -> Checks.told("x".repeat(300)), x -> x.write(bytes, 0), FULL);
        }
        refused("on a full object", Whole::full, x -> x.write(1, ';'), FULL);
    }

    static void promise02_write_afterFullWhatFitsStillFits() {
        ThrownHome x = Checks.told("p1,1;".repeat(58));
        C.due("bytes", x.count(6), 290);
        C.due("write(8)", x.write(8, Checks.number("t0,0,1,0".getBytes(), 0, 8)), 298);
        C.due("three more", x.write(3, 0), FULL);
        C.due("one more", x.write(1, ';'), 299);
        C.due("nothing of the three is told", x.fault(), NONE);
        C.due("lay", x.lay(), 1);
    }

    static void promise02_write_changesTheTextAlone() {
        ThrownHome x = Whole.rich();
        int was = x.count(6);
        C.due("write", x.write(3, 0), was + 3);
        counts(x, 3, 2, 5, 20, 4, 1, was + 3);
    }

    // ---- Promise 3: wipe

    static void promise03_wipe_howLongItWas() {
        for (int length : new int[] {0, 1, 8, 9, 299, 300}) {
            ThrownHome x = Checks.told("x".repeat(length));
            C.due("wipe", x.wipe(), length);
            C.due("empty", x.count(6), 0);
            C.due("fault of the empty", x.fault(), NONE);
            C.due("lay of the empty", x.lay(), NO);
            C.due("wipe again", x.wipe(), 0);
        }
    }

    static void promise03_wipe_leavesAllElse() {
        ThrownHome x = Whole.rich();
        C.due("wipe", x.wipe(), 28);
        counts(x, 3, 2, 5, 20, 4, 1, 0);
        C.due("undo", x.undo(), 3);
        C.due("back", x.back(), 0);
    }

    static void promise03_wipe_nothingOfTheOldTextIsLeft() {
        ThrownHome x = Checks.told("t0,0,1,0;t1,0,1,0;");
        x.wipe();
        Checks.tell(x, "t0,0,1,0");
        C.due("its ; is gone", x.fault(), 0);
        Checks.tell(x, ";");
        C.due("one throw alone", x.lay(), 1);
    }

    // ---- Promise 4: fault

    static void promise04_fault_noneOfTheEmptyAndOfTheFull() {
        C.due("empty", new ThrownHome().fault(), NONE);
        C.due("full", Checks.told("p1,1;".repeat(60)).fault(), NONE);
        C.due("full, all of it faults", Checks.told("x".repeat(300)).fault(), 0);
    }

    static void promise04_fault_changesNothing() {
        asks("fault", ThrownHome::fault);
        Whole.asks(C, "fault of a fault", () -> Checks.told("t9,9,1,1;n0,0,0,0;r3,4;p5,6;t"), ThrownHome::fault);
    }

    // ---- Promise 5: lay

    static void promise05_lay_from1To7Throws() {
        for (int n = 1; n <= 7; n++) {
            String text = SEVEN.substring(0, 9 * n);
            C.due("lay", Checks.told(text).lay(), n);
            C.due("throws", Checks.laid(text).count(0), n);
        }
        refused("lay of none", () -> Checks.told("r1,1;"), ThrownHome::lay, NO);
        refused("lay of eight", () -> Checks.told(SEVEN + "t0,0,1,0;"), ThrownHome::lay, NO);
    }

    static void promise05_lay_nothingUndoneNothingKeptTheTextStays() {
        ThrownHome x = Whole.full();
        counts(x, 7, 5, 7, 30, 8, 2, 300);
        C.due("lay", x.lay(), 7);
        counts(x, 7, 5, 7, 30, 0, 0, 300);
        refused("undo", () -> laidAgain(Whole.full()), ThrownHome::undo, NO);
        refused("back", () -> laidAgain(Whole.full()), ThrownHome::back, NO);
        C.due("lay again", x.lay(), 7);
        C.due("aim as told", x.load(1, 1), 1);
    }

    private static ThrownHome laidAgain(ThrownHome x) {
        x.lay();
        return x;
    }

    static void promise05_lay_noChangesNothing() {
        refused("the empty text", () -> wiped(Whole.rich()), ThrownHome::lay, NO);
        refused("the empty text", () -> wiped(Whole.full()), ThrownHome::lay, NO);
        refused("a text with a fault", () -> more(Whole.rich(), "t41,0,1,0;"), ThrownHome::lay, NO);
        refused("a text cut off", () -> more(Whole.rich(), "t"), ThrownHome::lay, NO);
        refused("a text without a throw", () -> more(wiped(Whole.rich()), "r1,2;p3,4;n5,1,0,99;"), ThrownHome::lay, NO);
        refused("a text without a throw", () -> more(wiped(Whole.full()), "r1,2;p3,4;n5,1,0,99;"), ThrownHome::lay, NO);
    }

    private static ThrownHome wiped(ThrownHome x) {
        x.wipe();
        return x;
    }

    private static ThrownHome more(ThrownHome x, String text) {
        Checks.tell(x, text);
        return x;
    }

    // ---- Promise 6: load

    static void promise06_load_what0To8() {
        told("load(0, what)", 0, 8, (x, what) -> x.load(0, what));
        told("load(2, what)", 0, 8, (x, what) -> x.load(2, what));
    }

    static void promise06_load_throwsSuchAsThereAre() {
        throwsTold("load(i, 0)", (x, i) -> x.load(i, 0));
        throwsTold("load(i, 8)", (x, i) -> x.load(i, 8));
        refused("both are none", Whole::rich, x -> x.load(3, 9), BAD);
        refused("both are none", Whole::rich, x -> x.load(-1, -1), BAD);
    }

    static void promise06_load_changesNothing() {
        for (int what = 0; what <= 8; what++) {
            int asked = what;
            asks("load(1, " + what + ")", x -> x.load(1, asked));
        }
    }

    // ---- Promise 7: far

    static void promise07_far_t0To99() {
        told("far(1, t)", 0, 99, (x, t) -> x.far(1, t));
        C.due("day 0", Checks.laid("t0,0,1,0;").far(0, 0), 0);
        C.due("day 99", Checks.laid("r0,60;t40,0,1,0;").far(0, 99), 59);
    }

    static void promise07_far_throwsSuchAsThereAre() {
        throwsTold("far(i, 9)", (x, i) -> x.far(i, 9));
    }

    static void promise07_far_noneNotThrownHomeOrLost() {
        ThrownHome x = Checks.laid("r0,13;t3,0,4,2;t2,1,1,2;t4,1,2,2;");
        int[] first = {NONE, NONE, NONE, 0, 4, 8, 12, NONE, NONE};
        int[] lost = {NONE, NONE, 0, 1, 2, 3, NONE, NONE, NONE};
        int[] other = {NONE, NONE, NONE, NONE, 0, 2, NONE, NONE, NONE};
        for (int t = 0; t < first.length; t++) {
            C.due("far(0, " + t + ")", x.far(0, t), first[t]);
            C.due("far(1, " + t + ")", x.far(1, t), lost[t]);
            C.due("far(2, " + t + ")", x.far(2, t), other[t]);
        }
        C.due("lost on its first day", Checks.laid("t3,0,4,2;t3,0,1,2;").far(0, 3), NONE);
        C.due("BAD ahead of NONE", x.far(3, 0), BAD);
        C.due("BAD ahead of NONE", x.far(0, -1), BAD);
    }

    static void promise07_far_changesNothing() {
        asks("far(1, 0)", x -> x.far(1, 0));
        asks("far(1, 99)", x -> x.far(1, 99));
    }

    // ---- Promise 8: rock

    static void promise08_rock_t0To99() {
        told("rock(t)", 0, 99, ThrownHome::rock);
        ThrownHome x = Checks.laid("r9,12;t0,0,1,0;t40,0,2,0;");
        C.due("day 0, the throw of that day is done", x.rock(0), 8);
        C.due("day 39", x.rock(39), 8);
        C.due("day 40", x.rock(40), 6);
        C.due("day 99", x.rock(99), 6);
        C.due("ahead of all", Checks.laid("r9,12;t1,0,1,0;").rock(0), 9);
    }

    static void promise08_rock_changesNothing() {
        asks("rock(0)", x -> x.rock(0));
        asks("rock(99)", x -> x.rock(99));
    }

    // ---- Promise 9: price

    static void promise09_price_d0To99() {
        told("price(d)", 0, 99, ThrownHome::price);
        ThrownHome x = Checks.laid("t0,0,1,0;p13,1;");
        for (int d = 0; d <= 99; d++) {
            C.due("price(" + d + ")", x.price(d), (13 + d) % 50 + 1);
        }
    }

    static void promise09_price_changesNothing() {
        asks("price(0)", x -> x.price(0));
        asks("price(99)", x -> x.price(99));
    }

    // ---- Promise 10: all

    static void promise10_all_what0To3() {
        told("all(what)", 0, 3, ThrownHome::all);
    }

    static void promise10_all_noneAndAllSeven() {
        String alike = "t9,0,1,2;".repeat(7);
        String[] texts = {SEVEN + "n3,3,0,99;p0,0;", SEVEN, alike};
        int[][] want = {{7, 0, 0, 7}, {0, 7, 0, 0}, {0, 0, 7, 0}};
        for (int k = 0; k < texts.length; k++) {
            for (int what = 0; what <= 3; what++) {
                C.due(texts[k] + " all(" + what + ")", Checks.laid(texts[k]).all(what), want[k][what]);
            }
        }
        C.due("the most that can be paid", Checks.laid(SEVEN + "n3,3,0,99;p49,0;").all(3), 350);
    }

    static void promise10_all_changesNothing() {
        for (int what = 0; what <= 3; what++) {
            int asked = what;
            asks("all(" + what + ")", x -> x.all(asked));
        }
    }

    // ---- Promises 11 to 13: aim, move, speed

    static void promise11_aim_a0To23() {
        told("aim(0, a)", 0, 23, (x, a) -> x.aim(0, a));
        for (int a = 0; a <= 23; a++) {
            ThrownHome x = Whole.rich();
            C.due("by what it was", x.aim(0, a), 7);
            C.due("by what it is", x.load(0, 1), a);
            C.due("by what it is", x.aim(0, 5), a);
        }
    }

    static void promise11_aim_throwsSuchAsThereAre() {
        throwsTold("aim(i, 0)", (x, i) -> x.aim(i, 0));
        refused("both are none", Whole::rich, x -> x.aim(3, 24), BAD);
    }

    static void promise12_move_t0To40() {
        told("move(0, t)", 0, 40, (x, t) -> x.move(0, t));
        for (int t = 0; t <= 40; t++) {
            ThrownHome x = Whole.rich();
            C.due("on which it was", x.move(0, t), 4);
            C.due("on which it is", x.load(0, 0), t);
            C.due("on which it is", x.move(0, 5), t);
        }
    }

    static void promise12_move_throwsSuchAsThereAre() {
        throwsTold("move(i, 0)", (x, i) -> x.move(i, 0));
        refused("both are none", Whole::rich, x -> x.move(3, 41), BAD);
    }

    static void promise12_move_toTheDayOfAnotherDoneAsTold() {
        // The first of both is told first, wherever it comes from.
        ThrownHome x = Checks.laid("t5,0,1,0;t9,0,6,0;");
        x.move(1, 5);
        C.due("the second to", x.load(1, 4), 23);
        x.move(1, 4);
        C.due("the second to", x.load(1, 4), 0);
        C.due("the first to", x.load(0, 4), 18);
        x.move(0, 4);
        C.due("the first to", x.load(0, 4), 0);
        C.due("the second to", x.load(1, 4), 23);
    }

    static void promise13_speed_v1To6() {
        told("speed(1, v)", 1, 6, (x, v) -> x.speed(1, v));
        for (int v = 1; v <= 6; v++) {
            ThrownHome x = Whole.rich();
            C.due("what it was", x.speed(1, v), 2);
            C.due("what it is", x.load(1, 2), v);
            C.due("what it is", x.speed(1, 5), v);
        }
        refused("speed 0", Whole::rich, x -> x.speed(1, 0), BAD);
        refused("speed 7", Whole::rich, x -> x.speed(1, 7), BAD);
    }

    static void promise13_speed_throwsSuchAsThereAre() {
        throwsTold("speed(i, 1)", (x, i) -> x.speed(i, 1));
        refused("both are none", Whole::rich, x -> x.speed(3, 7), BAD);
    }

    // ---- Promise 14: undo

    static void promise14_undo_noneCanBe() {
        refused("of a new object", ThrownHome::new, ThrownHome::undo, NO);
        refused("behind lay", () -> Checks.laid("t0,0,1,0;"), ThrownHome::undo, NO);
        refused("behind the last one", () -> {
            ThrownHome x = new ThrownHome();
            x.aim(0, 9);
            x.undo();
            return x;
        }, ThrownHome::undo, NO);
        refused("behind refused changes", () -> {
            ThrownHome x = new ThrownHome();
            x.aim(0, 24);
            x.move(2, 0);
            x.speed(0, 7);
            return x;
        }, ThrownHome::undo, NO);
        refused("behind back", () -> {
            ThrownHome x = new ThrownHome();
            x.keep();
            x.aim(0, 9);
            x.back();
            return x;
        }, ThrownHome::undo, NO);
    }

    static void promise14_undo_eightAndNotTheNinth() {
        for (int made : new int[] {7, 8, 9, 10, 16, 17}) {
            ThrownHome x = new ThrownHome();
            for (int k = 1; k <= made; k++) {
                x.move(1, 40 - k);
            }
            int can = Math.min(8, made);
            C.due("can be", x.count(4), can);
            for (int k = can - 1; k >= 0; k--) {
                C.due("undo", x.undo(), k);
            }
            C.due("undo", x.undo(), NO);
            C.due("day then", x.load(1, 0), made <= 8 ? 1 : 40 - (made - 8));
        }
    }

    static void promise14_undo_whatWasUndoneMakesRoom() {
        ThrownHome x = new ThrownHome();
        for (int k = 1; k <= 8; k++) {
            x.aim(0, k);
        }
        x.undo();
        x.undo();
        C.due("six can be", x.count(4), 6);
        x.aim(0, 20);
        x.aim(0, 21);
        C.due("eight can be", x.count(4), 8);
        int[] then = {20, 6, 5, 4, 3, 2, 1, 0};
        for (int k = 0; k < 8; k++) {
            C.due("undo", x.undo(), 7 - k);
            C.due("aim then", x.load(0, 1), then[k]);
        }
        C.due("undo", x.undo(), NO);
    }

    // ---- Promises 15 to 18: bestAim, bestDay, net, clear

    static void promise15_bestAim_what0To1() {
        told("bestAim(0, what)", 0, 1, (x, what) -> x.bestAim(0, what));
    }

    static void promise15_bestAim_throwsSuchAsThereAre() {
        throwsTold("bestAim(i, 0)", (x, i) -> x.bestAim(i, 0));
        throwsTold("bestAim(i, 1)", (x, i) -> x.bestAim(i, 1));
    }

    static void promise15_bestAim_changesNothing() {
        asks("bestAim(1, 0)", x -> x.bestAim(1, 0));
        asks("bestAim(1, 1)", x -> x.bestAim(1, 1));
    }

    static void promise16_bestDay_what0To1() {
        told("bestDay(0, what)", 0, 1, (x, what) -> x.bestDay(0, what));
    }

    static void promise16_bestDay_throwsSuchAsThereAre() {
        throwsTold("bestDay(i, 0)", (x, i) -> x.bestDay(i, 0));
        throwsTold("bestDay(i, 1)", (x, i) -> x.bestDay(i, 1));
    }

    static void promise16_bestDay_noneChangesNothing() {
        refused("bestDay(0, 0)", () -> Checks.laid("t9,0,3,2;"), x -> x.bestDay(0, 0), NONE);
        refused("bestDay(0, 1)", () -> Checks.laid("t9,0,3,2;"), x -> x.bestDay(0, 1), NONE);
        asks("bestDay(1, 0)", x -> x.bestDay(1, 0));
        asks("bestDay(1, 1)", x -> x.bestDay(1, 1));
    }

    static void promise17_net_w0To3() {
        told("net(w, 0)", 0, 3, (x, w) -> x.net(w, 0));
        told("net(w, 1)", 0, 3, (x, w) -> x.net(w, 1));
    }

    static void promise17_net_what0To1() {
        told("net(0, what)", 0, 1, (x, what) -> x.net(0, what));
        told("net(3, what)", 0, 1, (x, what) -> x.net(3, what));
        refused("both are none", Whole::rich, x -> x.net(4, 2), BAD);
    }

    static void promise17_net_changesNothingAndFitsBehindFive() {
        asks("net(0, 0)", x -> x.net(0, 0));
        asks("net(3, 1)", x -> x.net(3, 1));
        C.due("a sixth net", Checks.laid("t0,5,3,2;" + "n0,0,0,0;".repeat(5)).net(0, 0), 5);
    }

    static void promise18_clear_changesNothing() {
        asks("clear", ThrownHome::clear);
        Whole.asks(C, "clear of seven alike", () -> Checks.laid("t9,0,1,2;".repeat(7)), ThrownHome::clear);
    }

    static void promise18_clear_asBitsTheFirstThrowTheLowest() {
        C.due("none", new ThrownHome().clear(), 0);
        C.due("the first", Checks.laid("t9,0,1,2;t9,0,1,2;").clear(), 1);
        C.due("six of seven", Checks.laid("t9,0,1,2;".repeat(7)).clear(), 63);
        // The seventh alone meets the fifth and would meet the sixth; these two don't meet.
        C.due("the seventh alone", Checks.laid("r0,60;t0,1,6,2;t0,2,6,2;t0,3,6,2;t0,4,6,2;t0,0,2,2;t3,0,6,2;t1,0,3,2;").clear(), 64);
    }

    // ---- Promises 19 to 21: stray, meeters, stand

    static void promise19_stray_f0To60() {
        told("stray(f, 3, 5)", 0, 60, (x, f) -> x.stray(f, 3, 5));
    }

    static void promise19_stray_w0To23() {
        told("stray(3, w, 5)", 0, 23, (x, w) -> x.stray(3, w, 5));
    }

    static void promise19_stray_t0To99() {
        told("stray(3, 3, t)", 0, 99, (x, t) -> x.stray(3, 3, t));
    }

    static void promise19_stray_changesNothing() {
        asks("stray(0, 0, 0)", x -> x.stray(0, 0, 0));
        asks("stray(60, 23, 99)", x -> x.stray(60, 23, 99));
        refused("all are none", Whole::rich, x -> x.stray(61, 24, 100), BAD);
    }

    static void promise20_meeters_what0To1() {
        told("meeters(0, what)", 0, 1, (x, what) -> x.meeters(0, what));
    }

    static void promise20_meeters_throwsSuchAsThereAre() {
        throwsTold("meeters(i, 0)", (x, i) -> x.meeters(i, 0));
        throwsTold("meeters(i, 1)", (x, i) -> x.meeters(i, 1));
    }

    static void promise20_meeters_changesNothing() {
        asks("meeters(1, 0)", x -> x.meeters(1, 0));
        asks("meeters(1, 1)", x -> x.meeters(1, 1));
    }

    static void promise21_stand_s0To23() {
        told("stand(s, 1, 0)", 0, 23, (x, s) -> x.stand(s, 1, 0));
        told("stand(s, 63, 1)", 0, 23, (x, s) -> x.stand(s, 63, 1));
    }

    static void promise21_stand_set1To63() {
        told("stand(0, set, 0)", 1, 63, (x, set) -> x.stand(0, set, 0));
        told("stand(23, set, 1)", 1, 63, (x, set) -> x.stand(23, set, 1));
        refused("the empty set", Whole::rich, x -> x.stand(0, 0, 0), BAD);
        refused("a seventh speed", Whole::rich, x -> x.stand(0, 64, 0), BAD);
        refused("a seventh speed among others", Whole::rich, x -> x.stand(0, 127, 0), BAD);
    }

    static void promise21_stand_what0To1() {
        told("stand(0, 1, what)", 0, 1, (x, what) -> x.stand(0, 1, what));
    }

    static void promise21_stand_noneChangesNothing() {
        Supplier<ThrownHome> maker = () -> Checks.laid("t0,0,1,2;");
        refused("no way", maker, x -> x.stand(23, 2, 0), NONE);
        refused("no way", maker, x -> x.stand(23, 2, 1), NONE);
        refused("none has to be", maker, x -> x.stand(0, 2, 0), 0);
        refused("none has to be", maker, x -> x.stand(0, 2, 1), NONE);
        asks("stand(0, 63, 0)", x -> x.stand(0, 63, 0));
        asks("stand(23, 1, 1)", x -> x.stand(23, 1, 1));
    }

    // ---- Promises 22, 23: odds, year

    static void promise22_odds_n0To9() {
        told("odds(n, 5, 0)", 0, 9, (x, n) -> x.odds(n, 5, 0));
        told("odds(n, 0, 1)", 0, 9, (x, n) -> x.odds(n, 0, 1));
    }

    static void promise22_odds_x0To10() {
        told("odds(9, x, 0)", 0, 10, (x, chance) -> x.odds(9, chance, 0));
        told("odds(0, x, 1)", 0, 10, (x, chance) -> x.odds(0, chance, 1));
    }

    static void promise22_odds_part0To1() {
        told("odds(9, 10, part)", 0, 1, (x, part) -> x.odds(9, 10, part));
        refused("all are none", Whole::rich, x -> x.odds(10, 11, 2), BAD);
    }

    static void promise22_odds_changesNothing() {
        asks("odds(0, 0, 0)", x -> x.odds(0, 0, 0));
        asks("odds(9, 10, 1)", x -> x.odds(9, 10, 1));
    }

    static void promise23_year_z0To9999() {
        for (int z : new int[] {0, 1, 9998, 9999}) {
            C.due("year(" + z + ", 2)", Whole.rich().year(z, 2), Whole.rich().rock(99));
        }
        for (int z : new int[] {-1, 10000, 10001, -9999, 65521, 99999, LOW, HIGH}) {
            for (int what = 0; what <= 2; what++) {
                int asked = what;
                refused("year(" + z + ", " + what + ")", Whole::rich, x -> x.year(z, asked), BAD);
            }
        }
    }

    static void promise23_year_what0To2() {
        told("year(0, what)", 0, 2, (x, what) -> x.year(0, what));
        told("year(9999, what)", 0, 2, (x, what) -> x.year(9999, what));
        refused("both are none", Whole::rich, x -> x.year(10000, 3), BAD);
    }

    // ---- Promises 24, 25: keep, back

    static void promise24_keep_twoAndNotAThird() {
        ThrownHome x = Whole.rich();
        C.due("one is kept", x.count(5), 1);
        C.due("keep", x.keep(), 2);
        counts(x, 3, 2, 5, 20, 4, 2, 28);
        refused("a third", () -> {
            ThrownHome y = Whole.rich();
            y.keep();
            return y;
        }, ThrownHome::keep, FULL);
        refused("a third of a full object", Whole::full, ThrownHome::keep, FULL);
    }

    static void promise24_keep_leavesWhatCanBeUndone() {
        ThrownHome x = Whole.rich();
        x.keep();
        C.due("undo", x.undo(), 3);
        C.due("undone", x.load(0, 1), 3);
        C.due("kept", x.count(5), 2);
        C.due("as kept", x.back(), 1);
        C.due("as kept", x.load(0, 1), 7);
    }

    static void promise25_back_noneIsKept() {
        refused("of a new object", ThrownHome::new, ThrownHome::back, NO);
        refused("behind lay", () -> laidAgain(Whole.full()), ThrownHome::back, NO);
        refused("behind the last one", () -> {
            ThrownHome x = Whole.rich();
            x.back();
            x.speed(0, 1);
            return x;
        }, ThrownHome::back, NO);
    }

    static void promise25_back_theLastFirstAndNothingIsUndoneThen() {
        ThrownHome x = new ThrownHome();
        x.aim(0, 1);
        x.keep();
        x.aim(0, 2);
        x.keep();
        x.aim(0, 3);
        C.due("three can be undone", x.count(4), 3);
        C.due("back", x.back(), 1);
        C.due("as kept last", x.load(0, 1), 2);
        C.due("nothing is undone", x.count(4), 0);
        C.due("nothing is undone", x.undo(), NO);
        x.aim(0, 9);
        C.due("back", x.back(), 0);
        C.due("as kept first", x.load(0, 1), 1);
        C.due("nothing is undone", x.undo(), NO);
        C.due("back", x.back(), NO);
        C.due("as before", x.load(0, 1), 1);
    }

    static void promise25_back_whatIsKeptIsNotWhatIsChanged() {
        ThrownHome x = new ThrownHome();
        x.keep();
        x.keep();
        x.aim(0, 9);
        C.due("back", x.back(), 1);
        C.due("as kept", x.load(0, 1), 0);
        x.aim(0, 8);
        C.due("back", x.back(), 0);
        C.due("as kept", x.load(0, 1), 0);
    }

    // ---- Promise 26: count

    static void promise26_count_what0To6() {
        told("count(what)", 0, 6, ThrownHome::count);
        counts(new ThrownHome(), 2, 1, 0, 12, 0, 0, 0);
        counts(Whole.rich(), 3, 2, 5, 20, 4, 1, 28);
        counts(Whole.full(), 7, 5, 7, 30, 8, 2, 300);
    }

    static void promise26_count_whereTheRockStandsAtFirst() {
        ThrownHome x = Checks.laid("r23,60;t0,0,6,1;t40,0,6,1;");
        C.due("not where it stands in the end", x.count(2), 23);
        x.speed(0, 1);
        C.due("not where it stands in the end", x.count(2), 23);
    }

    static void promise26_count_changesNothing() {
        for (int what = 0; what <= 6; what++) {
            int asked = what;
            asks("count(" + what + ")", x -> x.count(asked));
        }
    }

    // ---- all promises: an object is used for at most 512 calls

    static void promise26_count_theLastOf512Calls() {
        ThrownHome x = new ThrownHome();
        for (int k = 1; k <= 255; k++) {
            x.aim(0, k % 24);
            x.clear();
        }
        C.due("call 511", x.count(4), 8);
        C.due("call 512", x.load(0, 1), 255 % 24);
    }
}
