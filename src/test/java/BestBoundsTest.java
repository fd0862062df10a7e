import java.math.BigInteger;

/** The document's third and fourth part, what is best, strays, stands, odds, years: a test for each bound. */
final class BestBoundsTest {
    private static final Checks C = new Checks();
    private static final int BAD = -1, NO = -2, FULL = -3, NONE = -4;

    public static void main(String[] args) {
        C.runAll(BestBoundsTest.class);
    }

    private static void aim(String text, int i, int a, int many) {
        C.due(text + " bestAim(" + i + ", 0)", Checks.laid(text).bestAim(i, 0), a);
        C.due(text + " bestAim(" + i + ", 1)", Checks.laid(text).bestAim(i, 1), many);
    }

    private static void day(String text, int i, int t, int paid) {
        C.due(text + " bestDay(" + i + ", 0)", Checks.laid(text).bestDay(i, 0), t);
        C.due(text + " bestDay(" + i + ", 1)", Checks.laid(text).bestDay(i, 1), paid);
    }

    private static void net(String text, int w, int place, int many) {
        C.due(text + " net(" + w + ", 0)", Checks.laid(text).net(w, 0), place);
        C.due(text + " net(" + w + ", 1)", Checks.laid(text).net(w, 1), many);
    }

    private static void clear(String text, int set) {
        C.due(text + " clear()", Checks.laid(text).clear(), set);
    }

    private static void meeters(String text, int i, int many, int first) {
        C.due(text + " meeters(" + i + ", 0)", Checks.laid(text).meeters(i, 0), many);
        C.due(text + " meeters(" + i + ", 1)", Checks.laid(text).meeters(i, 1), first);
    }

    private static void stand(String text, int s, int set, int many, int speed) {
        C.due(text + " stand(" + s + ", " + set + ", 0)", Checks.laid(text).stand(s, set, 0), many);
        C.due(text + " stand(" + s + ", " + set + ", 1)", Checks.laid(text).stand(s, set, 1), speed);
    }

    private static void odds(int n, int x, long above, long below) {
        C.due("odds(" + n + ", " + x + ", 0)", new ThrownHome().odds(n, x, 0), above);
        C.due("odds(" + n + ", " + x + ", 1)", new ThrownHome().odds(n, x, 1), below);
    }

    // ---- AIM: the A by which most LOADS are CAUGHT, of several the lowest

    static void term_aim_ofAllAFrom0To23() {
        for (int a = 0; a < 24; a++) {
            aim("t0,9,3,2;n" + a + ",0,0,99;", 0, a, 1);
            aim("r23,12;t0,9,3,2;n" + a + ",0,0,99;", 0, (a + 1) % 24, 1);
        }
    }

    static void term_aim_ofSeveralTheLowest() {
        aim("t0,9,3,2;n23,0,0,99;n5,0,0,99;", 0, 5, 1);
        aim("t0,9,3,2;n23,1,0,99;", 0, 0, 1);
        aim("t0,9,3,2;n22,1,0,99;", 0, 21, 1);
        aim("t0,9,3,2;n3,3,0,99;", 0, 0, 1);
        aim("t0,9,3,2;n4,3,0,99;", 0, 1, 1);
        // Caught by none: the lowest of all.
        aim("t0,9,3,2;", 0, 0, 0);
        aim("t0,9,3,2;n5,3,9,8;", 0, 0, 0);
    }

    static void term_aim_mostOfAllLoadsNotItsOwn() {
        // By 0 to 2 it would be caught, but the other one would meet it; the other one is caught by itself.
        aim("t0,9,3,2;t0,0,3,2;n0,0,0,99;", 0, 1, 1);
        // Two alike lose each other by 0, and a net at 1 too makes both caught by 1.
        aim("t0,9,3,2;t0,0,3,2;n0,0,0,99;n1,0,0,99;", 0, 1, 2);
        aim("t0,9,3,2;t0,0,3,2;n0,0,0,99;n23,0,0,99;", 0, 23, 2);
    }

    static void term_aim_theLastThrow() {
        aim("t0,9,1,2;t1,9,1,2;t2,9,1,2;t3,9,1,2;t4,9,1,2;t5,9,1,2;t6,9,1,2;n23,0,0,99;", 6, 23, 1);
    }

    // ---- DAY: the T (0 to 40) by which it is PAID best, of several the lowest; none (it never is)

    static void term_day_from0To40() {
        day("t9,0,3,2;n0,0,0,4;", 0, 0, 29);
        day("t9,0,3,2;n0,0,44,99;p5,0;", 0, 40, 6);
        day("t9,0,3,2;n0,0,43,44;p0,1;", 0, 40, 45);
        day("t9,0,3,2;n0,0,4,5;p0,1;", 0, 1, 6);
    }

    static void term_day_noneIfItNeverIsPaid() {
        // By 0 it is home on day 4, by 40 on day 44.
        day("t9,0,3,2;n0,0,0,3;", 0, NONE, NONE);
        day("t9,0,3,2;n0,0,45,99;", 0, NONE, NONE);
        day("t9,0,3,2;", 0, NONE, NONE);
        day("t9,0,3,2;n0,3,5,4;", 0, NONE, NONE);
        day("r0,60;t9,0,1,2;n0,0,0,59;", 0, NONE, NONE);
        day("r0,60;t9,0,1,2;n0,0,0,60;p5,0;", 0, 0, 6);
        day("r0,60;t9,0,1,2;n0,0,99,99;p5,0;", 0, 39, 6);
    }

    static void term_day_paidBestThePriceIs1AtLeast() {
        day("t9,0,3,2;n0,0,0,99;p0,0;", 0, 0, 1);
        day("t9,0,3,2;n0,0,44,44;p0,0;", 0, 40, 1);
        day("t9,0,3,2;n0,0,0,99;p49,0;", 0, 0, 50);
    }

    static void term_day_ofSeveralTheLowest() {
        day("t9,0,3,2;n0,0,7,9;p5,0;", 0, 3, 6);
        // 50 is the price on days 9 and 34: by 5 and 30.
        day("t9,0,3,2;n0,0,0,99;p31,2;", 0, 5, 50);
        day("t9,0,3,2;n0,0,10,99;p31,2;", 0, 30, 50);
    }

    static void term_day_metIsNotPaid() {
        // On day 5 it meets the other one, on every other day it is paid.
        day("t9,0,3,2;t5,0,3,2;n0,0,9,9;", 0, NONE, NONE);
        day("t9,0,3,2;t5,0,3,2;n0,0,9,10;p5,0;", 0, 6, 6);
    }

    // ---- NET more: the place of one more NET of W (0 to 3) on all days by which most are CAUGHT, the lowest

    static void term_net_ofAllPlacesFrom0To23() {
        for (int place = 0; place < 24; place++) {
            net("t0," + place + ",3,2;", 0, place, 1);
        }
    }

    static void term_net_ofW0To3() {
        for (int w = 0; w <= 3; w++) {
            net("t0,12,3,2;", w, 12 - w, 1);
            net("t0," + w + ",3,2;", w, 0, 1);
            net("t0," + (w + 1) + ",3,2;", w, 1, 1);
            // Two places 2 W apart are in one net, two 2 W and 1 apart are not.
            net("t0,5,3,2;t1," + (5 + 2 * w) + ",3,2;", w, 5 + w, 2);
            net("t0,5,3,2;t1," + (6 + 2 * w) + ",3,2;", w, 5 - w, 1);
        }
    }

    static void term_net_roundTheWrap() {
        net("t0,23,3,2;", 0, 23, 1);
        net("t0,23,3,2;", 1, 0, 1);
        net("t0,22,3,2;", 1, 21, 1);
        net("t0,22,3,2;", 2, 0, 1);
        net("t0,21,3,2;", 3, 0, 1);
        net("t0,20,3,2;", 3, 17, 1);
        net("t0,23,3,2;t0,1,3,2;", 1, 0, 2);
        net("t0,22,3,2;t0,0,3,2;", 1, 23, 2);
    }

    static void term_net_onAllDays() {
        // On the first day on which one can come, on the last net's day, and on the last of all.
        net("r0,1;t0,5,1,2;", 0, 5, 1);
        net("r0,59;t40,5,1,2;", 0, 5, 1);
        net("r0,60;t40,5,1,2;", 0, 5, 1);
    }

    static void term_net_theLowestOfSeveral() {
        net("t0,9,3,2;t0,4,3,2;", 0, 4, 1);
        net("t0,4,3,2;t0,9,3,2;t1,9,3,2;", 0, 9, 2);
        net("t0,9,3,2;n9,0,0,99;", 3, 0, 1);
        net("t0,9,3,2;t0,9,1,2;", 3, 0, 0);
    }

    // ---- CLEAR

    static void term_clear_noneIfNoLoadsMeet() {
        clear("t0,0,3,2;", 0);
        clear("t0,0,3,2;t1,0,3,2;", 0);
        clear("t0,0,3,2;t0,1,3,2;t0,2,3,2;t0,3,3,2;t0,4,3,2;t0,5,3,2;t0,6,3,2;", 0);
    }

    static void term_clear_thatOfFewest() {
        // One throw meets both others, which don't meet one another: it, not the two, though these are lower as bits.
        clear("r0,60;t0,0,2,2;t3,0,6,2;t1,0,3,2;", 4);
        clear("r0,60;t0,0,2,2;t1,0,3,2;t3,0,6,2;", 2);
        clear("r0,60;t0,0,2,2;t0,3,1,2;t1,0,4,2;t3,0,3,2;", 1);
        clear("t9,0,1,2;t9,0,2,2;t9,0,3,2;t9,0,4,2;t9,0,5,2;t9,0,6,2;t9,0,1,2;", 63);
        clear("t9,7,1,2;t9,0,2,2;t9,0,3,2;t9,0,4,2;t9,0,5,2;t9,0,6,2;t9,0,1,2;", 62);
    }

    static void term_clear_ofSeveralTheLowest() {
        clear("t9,0,1,2;t9,0,2,2;", 1);
        clear("t9,5,1,2;t9,0,1,2;t9,0,2,2;", 2);
        clear("t9,0,1,2;t9,0,2,2;t9,5,1,2;t9,5,2,2;", 5);
        clear("t9,5,1,2;t8,5,1,2;t7,5,1,2;t6,5,1,2;t5,5,1,2;t9,0,1,2;t9,0,2,2;", 32);
    }

    static void term_clear_theRockDoesNotTurnByThem() {
        // Without 0 the two others would go to 0 and 3; with it both go to 0.
        clear("r0,60;t0,9,3,0;t0,3,1,2;t0,3,2,2;", 2);
        // Without 0 the others, 2 apart by the turning of 1, would meet or not as the rock stands.
        clear("r3,60;t0,0,3,0;t0,3,1,2;t0,3,2,2;", 3);
        clear("t0,0,3,0;t0,3,3,0;", 1);
    }

    // ---- STRAY

    static void term_stray_f0To60() {
        ThrownHome x = Checks.laid("r0,60;t40,0,1,2;");
        C.due("just thrown", x.stray(0, 0, 40), 1);
        C.due("as far as can be", x.stray(59, 0, 99), 1);
        C.due("farther than can be", x.stray(60, 0, 99), 0);
        C.due("one less", x.stray(58, 0, 99), 0);
        C.due("below", x.stray(-1, 0, 40), BAD);
        C.due("above", x.stray(61, 0, 99), BAD);
    }

    static void term_stray_w0To23() {
        ThrownHome x = Checks.laid("r23,12;t0,0,3,2;t0,1,3,2;");
        C.due("to 23", x.stray(0, 23, 0), 1);
        C.due("to 0", x.stray(0, 0, 0), 2);
        C.due("to 22", x.stray(0, 22, 0), 0);
        C.due("to 1", x.stray(0, 1, 0), 0);
        C.due("below", x.stray(0, -1, 0), BAD);
        C.due("above", x.stray(0, 24, 0), BAD);
    }

    static void term_stray_t0To99() {
        ThrownHome x = Checks.laid("r0,60;t0,0,1,2;t40,0,1,2;");
        C.due("day 0", x.stray(0, 0, 0), 1);
        C.due("day 99", x.stray(59, 0, 99), 2);
        C.due("below", x.stray(0, 0, -1), BAD);
        C.due("above", x.stray(0, 0, 100), BAD);
    }

    static void term_stray_theThrowsAsBits() {
        ThrownHome x = Checks.laid("t0,0,1,2;t1,0,1,2;t2,0,1,2;t3,0,1,2;t4,0,1,2;t5,0,1,2;t6,0,1,2;");
        for (int i = 0; i < 7; i++) {
            C.due("throw " + i, x.stray(6 - i, 0, 6), 1 << i);
        }
    }

    static void term_stray_fromItsDayOnUntilHome() {
        ThrownHome x = Checks.laid("r0,12;t2,0,3,2;");
        C.due("a day ahead of the throw", x.stray(0, 0, 1), 0);
        C.due("on its day", x.stray(0, 0, 2), 1);
        C.due("a day ahead of home", x.stray(9, 0, 5), 1);
        C.due("home on that day", x.stray(12, 0, 6), 0);
    }

    static void term_stray_lostOnThatDayIsLost() {
        ThrownHome x = Checks.laid("r0,20;t0,0,2,2;t2,0,6,2;");
        C.due("a day ahead of it", x.stray(4, 0, 2), 1);
        C.due("a day ahead of it", x.stray(0, 0, 2), 2);
        C.due("lost on that day", x.stray(6, 0, 3), 0);
        C.due("a day behind it", x.stray(8, 0, 4), 0);
        ThrownHome atOnce = Checks.laid("t5,0,2,2;t5,0,6,2;");
        C.due("lost on the day of the throw", atOnce.stray(0, 0, 5), 0);
    }

    static void term_stray_allOfWhichItCanBe() {
        // Two as far on their way TO one place would meet; so of those seen alike there is one at most, the others are lost.
        ThrownHome alike = Checks.laid("r0,60;t0,0,2,2;t2,0,3,2;t6,0,6,2;t6,4,6,2;");
        C.due("ahead of the day on which they meet", alike.stray(10, 0, 5), 1);
        C.due("the second", alike.stray(9, 0, 5), 2);
        C.due("lost by that day", alike.stray(12, 0, 6), 0);
        C.due("the third, no more met by those", alike.stray(6, 0, 7), 4);
        C.due("as far, TO another place", alike.stray(6, 4, 7), 8);
    }

    static void term_stray_onItsWayToWhereItWasThrown() {
        ThrownHome x = Checks.laid("r0,60;t0,7,1,3;");
        C.due("a drifting one", x.stray(59, 7, 59), 1);
        C.due("not where it will have drifted", x.stray(59, 22, 59), 0);
        C.due("not where it has drifted by then", x.stray(59, 21, 59), 0);
    }

    // ---- MEETERS

    static void term_meeters_days0To40() {
        // On its own day all six speeds; on day 0 a slower one; on day 40, not on day 41, a faster one.
        meeters("r0,60;t0,0,6,2;", 0, 6, 1);
        meeters("r0,7;t1,0,2,2;", 0, 6 + 1 + 2 + 1, 1);
        meeters("r0,60;t40,0,1,2;", 0, 6, 401);
        meeters("r0,60;t39,0,1,2;", 0, 7, 391);
        meeters("r0,60;t38,0,1,2;", 0, 6 + 1 + 2, 381);
    }

    static void term_meeters_speeds1To6() {
        for (int v = 1; v <= 6; v++) {
            // Home on its second day: those of its own day alone.
            meeters("r0,1;t9,0," + v + ",2;", 0, 6, 91);
        }
        // 2 far on day 10, as by 1 from day 8; 5 far on day 10, as by 1 from day 5.
        meeters("r0,3;t9,0,2,2;", 0, 7, 81);
        meeters("r0,6;t9,0,5,2;", 0, 7, 51);
        // 6 far on day 10, as by 1, 2 and 3 from days 4, 7 and 8.
        meeters("r0,7;t9,0,6,2;", 0, 9, 41);
    }

    static void term_meeters_whileItIsOnItsWay() {
        // Thrown on day 2, 2 far on day 3, which one by 1 from day 1 is too.
        meeters("r0,2;t2,0,2,2;", 0, 6, 21);
        meeters("r0,3;t2,0,2,2;", 0, 7, 11);
        // 4 far on day 4: by 1 from day 0, by 4 from day 3; 4 is home if home is 4.
        meeters("r0,4;t2,0,2,2;", 0, 7, 11);
        meeters("r0,5;t2,0,2,2;", 0, 9, 1);
    }

    static void term_meeters_asIfThereWereNoOthers() {
        // The others lose it on its first day, and one stands where a meeter would.
        meeters("r0,5;t2,0,2,2;t2,0,6,2;t3,0,4,2;", 0, 9, 1);
        meeters("r0,5;t3,0,4,2;t2,0,6,2;t2,0,2,2;", 2, 9, 1);
        // They don't turn the rock for it either: it goes to the same place.
        meeters("r0,5;t0,0,5,1;t2,0,2,0;t4,0,5,1;", 1, 9, 1);
    }

    static void term_meeters_ofAPlainOneMoreThrownToTheSamePlace() {
        // Thrown ahead of it, the one more would turn the rock; it is met all the same, as it goes to the same place.
        meeters("r0,12;t1,3,3,0;", 0, 8, 2);
        meeters("r0,12;t1,3,3,3;", 0, 8, 2);
        meeters("r0,12;t1,3,3,1;", 0, 8, 2);
        ThrownHome x = new ThrownHome();
        ThrownHome seven = Checks.laid("t1,3,3,0;t0,1,1,0;t0,2,1,0;t0,3,1,0;t0,4,1,0;t0,5,1,0;t1,6,1,0;");
        C.due("behind seven, too", seven.meeters(0, 0), x.meeters(1, 0));
        C.due("behind seven, too", seven.meeters(0, 1), x.meeters(1, 1));
    }

    static void term_meeters_theFirstByTheDayThenTheSpeed() {
        meeters("r0,12;t0,0,3,2;", 0, 7, 1);
        meeters("r0,3;t10,0,1,2;", 0, 7, 101);
        // 3 far on day 3, as by 1 from day 0; 6 far on day 4, as by 2 from day 1 and by 6 from day 3.
        meeters("r0,7;t2,0,3,2;", 0, 9, 1);
        // 5 far on the day behind, as by 1 from four days ahead of its own: from day 0, and not from a day ahead of it.
        meeters("r0,6;t4,0,5,2;", 0, 7, 1);
        meeters("r0,6;t3,0,5,2;", 0, 6, 31);
    }

    // ---- STAND

    static void term_stand_ofAllPlacesFrom0To23() {
        for (int s = 0; s < 24; s++) {
            int back = (24 - s) % 24;
            stand("t0,0,1,2;", s, 1, back, back == 0 ? NONE : 1);
            stand("t0,0,1,2;", s, 32, back % 6 == 0 ? back / 6 : NONE, back % 6 == 0 && back > 0 ? 6 : NONE);
            int more = (back + 5) / 6;
            int lowest = back == 0 ? NONE : back - 6 * (more - 1);
            stand("t0,0,1,2;", s, 63, more, lowest);
        }
    }

    static void term_stand_setsOf1To63() {
        for (int speed = 1; speed <= 6; speed++) {
            stand("r10,12;t0,0,1,2;", 10 - speed, 1 << (speed - 1), 1, speed);
        }
        stand("r10,12;t0,0,1,2;", 4, 63, 1, 6);
        stand("r10,12;t0,0,1,2;", 3, 63, 2, 1);
        stand("r10,12;t0,0,1,2;", 4, 31, 2, 1);
        C.due("the empty set", new ThrownHome().stand(0, 0, 0), BAD);
        C.due("a seventh speed", new ThrownHome().stand(0, 64, 0), BAD);
    }

    static void term_stand_roundTheWrap() {
        stand("r0,12;t0,0,1,2;", 23, 1, 1, 1);
        stand("r0,12;t0,0,1,2;", 1, 1, 23, 1);
        stand("r23,12;t0,0,1,2;", 0, 1, 23, 1);
        stand("r23,12;t0,0,1,2;", 22, 1, 1, 1);
        // By 5 alone, one back is five times, 25; one on is nineteen times, 95.
        stand("t0,0,1,2;", 23, 16, 5, 5);
        stand("t0,0,1,2;", 1, 16, 19, 5);
    }

    static void term_stand_behindAllOthers() {
        stand("t40,0,6,1;", 12, 63, 0, NONE);
        stand("t40,0,6,1;", 11, 63, 1, 1);
        stand("t40,0,6,1;", 13, 63, 4, 5);
    }

    static void term_stand_sevenThrowsAtMostAreOfTheText() {
        // Eight by 1, and one behind the seven that are told.
        stand("t0,0,1,2;", 17, 1, 7, 1);
        stand("t0,0,1,2;", 16, 1, 8, 1);
        stand("t0,0,1,2;t1,0,1,2;t2,0,1,2;t3,0,1,2;t4,0,1,2;t5,0,1,2;t6,0,1,2;", 23, 1, 1, 1);
        stand("t0,0,1,0;t1,0,1,0;t2,0,1,0;t3,0,1,0;t4,0,1,0;t5,0,1,0;t6,0,1,0;", 18, 1, 23, 1);
    }

    static void term_stand_lowestSpeedOfTheFirstOfAWaySoShort() {
        // Seven back: by 1 and 6, by 2 and 5, by 3 and 4.
        stand("r7,12;t0,0,1,2;", 0, 63, 2, 1);
        stand("r7,12;t0,0,1,2;", 0, 30, 2, 2);
        stand("r7,12;t0,0,1,2;", 0, 12, 2, 3);
        // 1 is in the set, but no way so short begins by it: twelve back by 6 and 6.
        stand("r12,12;t0,0,1,2;", 0, 33, 2, 6);
        // Eleven back by 1 and 6 is six throws; by 5 and 6 two.
        stand("r11,12;t0,0,1,2;", 0, 33, 6, 1);
        stand("r11,12;t0,0,1,2;", 0, 49, 2, 5);
    }

    static void term_stand_noneIfThereIsNoWay() {
        stand("t0,0,1,2;", 23, 2, NONE, NONE);
        stand("t0,0,1,2;", 22, 2, 1, 2);
        stand("t0,0,1,2;", 22, 4, NONE, NONE);
        stand("t0,0,1,2;", 21, 4, 1, 3);
        stand("t0,0,1,2;", 21, 42, NONE, NONE);
        stand("t0,0,1,2;", 23, 36, NONE, NONE);
        stand("t0,0,1,2;", 23, 37, 1, 1);
    }

    static void term_stand_theSpeedNoneIfNoneHasToBe() {
        for (int set = 1; set <= 63; set++) {
            stand("r9,12;t0,0,1,2;", 9, set, 0, NONE);
        }
    }

    // ---- ODDS

    static void term_odds_x0To10OfTen() {
        odds(1, 0, 0, 1);
        odds(1, 1, 1, 10);
        odds(1, 9, 9, 10);
        odds(1, 10, 1, 1);
        odds(9, 0, 0, 1);
        odds(8, 0, 0, 1);
        odds(8, 10, 1, 1);
        odds(9, 10, 1, 1);
    }

    static void term_odds_n0To9() {
        for (int x = 0; x <= 10; x++) {
            odds(0, x, 1, 1);
        }
        odds(9, 1, 22273, 25000000);
        odds(9, 5, 1, 2);
        odds(9, 7, 45059567, 50000000);
    }

    static void term_odds_noLowerIsAsHighToo() {
        // Two days: 1 less the chance of two downs; three days: two ups at least.
        odds(2, 5, 3, 4);
        odds(2, 1, 19, 100);
        odds(2, 9, 99, 100);
        odds(3, 5, 1, 2);
        odds(3, 1, 7, 250);
    }

    static void term_odds_inLowestTerms() {
        for (int n = 0; n <= 9; n++) {
            for (int x = 0; x <= 10; x++) {
                BigInteger above = BigInteger.valueOf(new ThrownHome().odds(n, x, 0));
                BigInteger below = BigInteger.valueOf(new ThrownHome().odds(n, x, 1));
                C.due("odds(" + n + ", " + x + ") common", above.gcd(below).intValue(), 1);
                C.due("odds(" + n + ", " + x + ") of 10 to the nth", BigInteger.TEN.pow(n).mod(below).intValue(), 0);
            }
        }
    }

    // ---- a YEAR

    static void term_year_z0To9999() {
        for (int z : new int[] {0, 1, 2, 4999, 9998, 9999}) {
            for (int i = 0; i < 7; i++) {
                BigInteger x = BigInteger.valueOf(7919).multiply(BigInteger.valueOf(z)).add(BigInteger.valueOf(6151L * i + 1));
                int aim = x.pow(2).mod(BigInteger.valueOf(65521)).intValue() % 24;
                StringBuilder text = new StringBuilder();
                for (int k = 0; k < 7; k++) {
                    text.append("t").append(k).append(",0,").append(k == i ? 3 : 1).append(",2;");
                }
                // Of speed 3 alone is home on day i and 4.
                String net = "n" + aim + ",0," + (i + 4) + "," + (i + 4) + ";";
                String other = "n" + (aim + 1) % 24 + ",0," + (i + 4) + "," + (i + 4) + ";";
                C.due("year " + z + ", throw " + i, Checks.laid(text + net + "p9,0;").year(z, 1) / 10, caughtYear(text + net, z));
                C.due("year " + z + ", throw " + i, caughtYear(text + net, z) - caughtYear(text + other, z), lost(text + net, z, i) ? 0 : 1);
            }
        }
    }

    private static int caughtYear(String text, int z) {
        return Checks.laid(text).year(z, 0);
    }

    /** Whether the throw is met in that year, by the same rock with the year's aims told. */
    private static boolean lost(String text, int z, int i) {
        ThrownHome x = Checks.laid(text);
        for (int k = 0; k < 7; k++) {
            long draw = 7919L * z + 6151L * k + 1;
            x.aim(k, (int) (draw * draw % 65521 % 24));
        }
        return x.load(i, 6) == 2;
    }

    static void term_year_nothingChangesByIt() {
        for (int z : new int[] {0, 9999}) {
            for (int what = 0; what <= 2; what++) {
                int asked = what;
                Whole.asks(C, "year(" + z + ", " + what + ")", Whole::rich, x -> x.year(z, asked));
                Whole.asks(C, "year(" + z + ", " + what + ")", Whole::full, x -> x.year(z, asked));
            }
        }
    }

    static void term_year_whereTheRockStandsInTheEnd() {
        C.due("as by no year", Checks.laid("r5,12;t0,0,6,1;t40,0,2,0;").year(0, 2), 15);
        C.due("as by no year", Checks.laid("r5,12;t0,0,6,1;t40,0,2,0;").year(9999, 2), 15);
        C.due("it stays", Checks.laid("r23,12;t0,0,6,2;").year(77, 2), 23);
    }

    // ---- what can be UNDONE, what is KEPT

    static void term_undone_theLast8() {
        for (int made = 0; made <= 20; made++) {
            ThrownHome x = new ThrownHome();
            for (int k = 1; k <= made; k++) {
                x.aim(0, k);
            }
            int can = Math.min(made, 8);
            C.due("can be undone of " + made, x.count(4), can);
            for (int k = 1; k <= can; k++) {
                C.due("undo " + k + " of " + made, x.undo(), can - k);
                C.due("aim then", x.load(0, 1), made - k);
            }
            C.due("no more of " + made, x.undo(), NO);
            C.due("aim then", x.load(0, 1), made - can);
        }
    }

    static void term_undone_suchByWhichNothingBecomesAnotherToo() {
        ThrownHome x = new ThrownHome();
        x.aim(1, 9);
        for (int k = 0; k < 7; k++) {
            x.aim(0, 0);
        }
        C.due("eight", x.count(4), 8);
        for (int k = 0; k < 7; k++) {
            x.undo();
            C.due("not yet", x.load(1, 1), 9);
        }
        C.due("the eighth", x.undo(), 0);
        C.due("undone", x.load(1, 1), 3);
        ThrownHome y = new ThrownHome();
        y.aim(1, 9);
        for (int k = 0; k < 4; k++) {
            y.move(0, 0);
            y.speed(0, 3);
        }
        for (int k = 0; k < 8; k++) {
            y.undo();
        }
        C.due("the ninth stays", y.load(1, 1), 9);
        C.due("no more", y.undo(), NO);
    }

    static void term_undone_ofAllThreeKinds() {
        ThrownHome x = Checks.laid("t1,2,3,1;t4,5,6,2;");
        x.aim(0, 23);
        x.move(0, 40);
        x.speed(0, 6);
        x.aim(1, 0);
        x.move(1, 0);
        x.speed(1, 1);
        int[][] then = {{40, 23, 6, 0, 0, 6}, {40, 23, 6, 4, 0, 6}, {40, 23, 6, 4, 5, 6}, {40, 23, 3, 4, 5, 6}, {1, 23, 3, 4, 5, 6}, {1, 2, 3, 4, 5, 6}};
        for (int k = 0; k < then.length; k++) {
            C.due("undo", x.undo(), 5 - k);
            for (int c = 0; c < 6; c++) {
                C.due("undone " + (k + 1) + ", number " + c, x.load(c / 3, c % 3), then[k][c]);
            }
        }
        C.due("kinds stay", 10 * x.load(0, 3) + x.load(1, 3), 12);
    }

    static void term_kept_2AtMost() {
        ThrownHome x = new ThrownHome();
        C.due("none", x.count(5), 0);
        C.due("the first", x.keep(), 1);
        C.due("the second", x.keep(), 2);
        C.due("the third", x.keep(), FULL);
        C.due("still two", x.count(5), 2);
        C.due("one is taken back", x.back(), 1);
        C.due("room for one", x.keep(), 2);
        C.due("and no more", x.keep(), FULL);
        C.due("taken back", x.back(), 1);
        C.due("taken back", x.back(), 0);
        C.due("none is left", x.back(), NO);
    }

    static void term_kept_allThrows() {
        ThrownHome x = Checks.laid("t0,0,1,0;t1,1,2,1;t2,2,3,2;t3,3,4,3;t4,4,5,0;t5,5,6,1;t6,6,1,2;");
        x.keep();
        for (int i = 0; i < 7; i++) {
            x.aim(i, 23 - i);
            x.move(i, 40 - i);
            x.speed(i, 6 - x.load(i, 2) + 1);
        }
        C.due("back", x.back(), 0);
        for (int i = 0; i < 7; i++) {
            C.due("day", x.load(i, 0), i);
            C.due("aim", x.load(i, 1), i);
            C.due("speed", x.load(i, 2), i % 6 + 1);
            C.due("kind", x.load(i, 3), i % 4);
        }
    }

    // ---- BAD, NO, NONE, FULL: of several the first in this order; nothing changes then

    static void term_refusals_badAheadOfAllOthers() {
        ThrownHome full = Whole.full();
        C.due("BAD ahead of FULL", full.write(0, 0), BAD);
        C.due("BAD ahead of FULL", full.write(9, 0), BAD);
        C.due("FULL", full.write(1, 0), FULL);
        C.due("FULL", full.write(8, 0), FULL);
        ThrownHome x = Checks.laid("t9,0,3,2;");
        C.due("NONE", x.far(0, 8), NONE);
        C.due("BAD ahead of NONE", x.far(1, 8), BAD);
        C.due("BAD ahead of NONE", x.far(0, 100), BAD);
        C.due("NONE", x.bestDay(0, 1), NONE);
        C.due("BAD ahead of NONE", x.bestDay(0, 2), BAD);
        C.due("BAD ahead of NONE", x.bestDay(1, 1), BAD);
        C.due("NONE", x.stand(1, 2, 1), NONE);
        C.due("BAD ahead of NONE", x.stand(1, 2, 2), BAD);
        C.due("BAD ahead of NONE", x.stand(25, 2, 1), BAD);
        C.due("NONE", x.stand(0, 2, 1), NONE);
        C.due("BAD ahead of NONE", x.stand(0, 66, 1), BAD);
    }

    static void term_refusals_throwsSuchAsThereAre() {
        for (int throwsTold = 1; throwsTold <= 7; throwsTold++) {
            String text = "t0,0,1,0;".repeat(throwsTold);
            ThrownHome x = Checks.laid(text);
            C.due("the last one", x.load(throwsTold - 1, 2), 1);
            C.due("behind the last one", x.load(throwsTold, 2), BAD);
            C.due("behind the last one", x.far(throwsTold, 0), BAD);
            C.due("behind the last one", x.aim(throwsTold, 0), BAD);
            C.due("behind the last one", x.move(throwsTold, 0), BAD);
            C.due("behind the last one", x.speed(throwsTold, 1), BAD);
            C.due("behind the last one", x.bestAim(throwsTold, 0), BAD);
            C.due("behind the last one", x.bestDay(throwsTold, 0), BAD);
            C.due("behind the last one", x.meeters(throwsTold, 0), BAD);
            C.due("nothing to undo", x.count(4), 0);
        }
        // Of seven that were laid only one is there behind the next laying.
        ThrownHome less = Checks.laid("t0,0,1,0;".repeat(7));
        less.wipe();
        Checks.tell(less, "t0,0,1,0;");
        C.due("lay", less.lay(), 1);
        C.due("no longer there", less.load(1, 2), BAD);
        C.due("no longer there", less.aim(6, 2), BAD);
    }

    static void term_constants() {
        C.due("BAD", ThrownHome.BAD, BAD);
        C.due("NO", ThrownHome.NO, NO);
        C.due("FULL", ThrownHome.FULL, FULL);
        C.due("NONE", ThrownHome.NONE, NONE);
    }
}
