/** The document's second part, what becomes of throws: a test of its own for each sentence that names a bound. */
final class FlightBoundsTest {
    private static final Checks C = new Checks();
    private static final int NONE = -4;
    private static final int TO = 4, BEHIND = 5, HOW = 6, WHEN = 7, PAID = 8;
    private static final int CAUGHT = 0, MISSED = 1, MET = 2;

    public static void main(String[] args) {
        C.runAll(FlightBoundsTest.class);
    }

    private static void due(String text, int i, int what, int want) {
        C.due(text + " load(" + i + ", " + what + ")", Checks.laid(text).load(i, what), want);
    }

    private static void far(String text, int i, int day, int want) {
        C.due(text + " far(" + i + ", " + day + ")", Checks.laid(text).far(i, day), want);
    }

    /** How it is with each load of a text. */
    private static void how(String text, int... want) {
        ThrownHome x = Checks.laid(text);
        C.due(text + " throws", x.count(0), want.length);
        for (int i = 0; i < want.length; i++) {
            C.due(text + " load(" + i + ", HOW)", x.load(i, HOW), want[i]);
        }
    }

    // ---- THROWS are done by days, those of one day as they are told

    static void term_throws_doneByDays() {
        // Told last, thrown first: to 0, and the rock to 18; then the other one to 18.
        due("t1,0,1,0;t0,0,6,0;", 1, TO, 0);
        due("t1,0,1,0;t0,0,6,0;", 1, BEHIND, 18);
        due("t1,0,1,0;t0,0,6,0;", 0, TO, 18);
        due("t1,0,1,0;t0,0,6,0;", 0, BEHIND, 17);
        due("t40,0,1,0;t39,0,6,0;", 0, TO, 18);
        due("t40,0,1,0;t0,0,6,0;", 0, TO, 18);
        due("t0,0,1,0;t40,0,6,0;", 0, TO, 0);
        due("t0,0,1,0;t40,0,6,0;", 1, TO, 23);
    }

    static void term_throws_ofOneDayAsTold() {
        due("t1,0,1,0;t1,0,6,0;", 0, TO, 0);
        due("t1,0,1,0;t1,0,6,0;", 1, TO, 23);
        String seven = "t3,0,1,0;t3,0,2,0;t3,0,3,0;t3,0,4,0;t3,0,5,0;t3,0,6,0;t3,0,1,0;";
        int[] to = {0, 23, 21, 18, 14, 9, 3};
        for (int i = 0; i < to.length; i++) {
            due(seven, i, TO, to[i]);
        }
        due(seven, 6, BEHIND, 2);
    }

    // ---- TO where the ROCK stands then and A together, modulo 24

    static void term_to_modulo24() {
        due("r0,12;t0,0,1,0;", 0, TO, 0);
        due("r0,12;t0,23,1,0;", 0, TO, 23);
        due("r23,12;t0,0,1,0;", 0, TO, 23);
        due("r1,12;t0,22,1,0;", 0, TO, 23);
        due("r1,12;t0,23,1,0;", 0, TO, 0);
        due("r23,12;t0,1,1,0;", 0, TO, 0);
        due("r23,12;t0,23,1,0;", 0, TO, 22);
    }

    // ---- then the ROCK stands V less (modulo 24; of SPITE twice as much, of a SOFT one it stays)

    static void term_rock_vLessModulo24() {
        due("r23,12;t0,0,1,0;", 0, BEHIND, 22);
        due("r6,12;t0,0,6,0;", 0, BEHIND, 0);
        due("r5,12;t0,0,6,0;", 0, BEHIND, 23);
        due("r1,12;t0,0,1,0;", 0, BEHIND, 0);
        due("r0,12;t0,0,1,0;", 0, BEHIND, 23);
        due("r0,12;t0,0,6,0;", 0, BEHIND, 18);
        due("r0,12;t0,0,6,3;", 0, BEHIND, 18);
        due("r0,12;t0,0,1,3;", 0, BEHIND, 23);
    }

    static void term_rock_ofSpiteTwiceAsMuch() {
        due("r12,12;t0,0,6,1;", 0, BEHIND, 0);
        due("r11,12;t0,0,6,1;", 0, BEHIND, 23);
        due("r2,12;t0,0,1,1;", 0, BEHIND, 0);
        due("r1,12;t0,0,1,1;", 0, BEHIND, 23);
        // Seven of them turn it 84 back, three times round and 12 more.
        due("t0,0,6,1;t0,0,6,1;t0,0,6,1;t0,0,6,1;t0,0,6,1;t0,0,6,1;t0,0,6,1;", 6, BEHIND, 12);
    }

    static void term_rock_ofASoftOneItStays() {
        due("r0,12;t0,0,6,2;", 0, BEHIND, 0);
        due("r23,12;t0,0,1,2;", 0, BEHIND, 23);
        due("r5,12;t0,0,6,2;t0,0,6,0;", 1, TO, 5);
    }

    static void term_rock_isTurnedFromTheDayOn() {
        ThrownHome x = Checks.laid("r5,12;t3,0,2,0;t40,0,1,0;");
        C.due("ahead of it", x.rock(2), 5);
        C.due("on that day", x.rock(3), 3);
        C.due("ahead of the last day", x.rock(39), 3);
        C.due("on the last day", x.rock(40), 2);
        C.due("behind it", x.rock(41), 2);
    }

    // ---- on day t, from T on, it is V times (t less T) FAR, as long as that is less than D

    static void term_far_fromTOn() {
        far("t3,0,2,0;", 0, 2, NONE);
        far("t3,0,2,0;", 0, 3, 0);
        far("t3,0,2,0;", 0, 4, 2);
        far("t0,0,2,0;", 0, 0, 0);
        far("t40,0,2,0;", 0, 39, NONE);
        far("t40,0,2,0;", 0, 40, 0);
    }

    static void term_far_lessThanD() {
        far("r0,12;t0,0,3,0;", 0, 3, 9);
        far("r0,12;t0,0,3,0;", 0, 4, NONE);
        far("r0,13;t0,0,3,0;", 0, 4, 12);
        far("r0,13;t0,0,3,0;", 0, 5, NONE);
        far("r0,60;t0,0,1,0;", 0, 59, 59);
        far("r0,60;t0,0,1,0;", 0, 60, NONE);
        far("r0,1;t0,0,1,0;", 0, 0, 0);
        far("r0,1;t0,0,1,0;", 0, 1, NONE);
    }

    // ---- on the first day on which it would be D or more it COMES home

    static void term_comes_onTheFirstDayOfDOrMore() {
        due("r0,12;t0,0,3,0;", 0, WHEN, 4);
        due("r0,13;t0,0,3,0;", 0, WHEN, 5);
        due("r0,14;t0,0,3,0;", 0, WHEN, 5);
        due("r0,15;t0,0,3,0;", 0, WHEN, 5);
        due("r0,16;t0,0,3,0;", 0, WHEN, 6);
        due("r0,1;t0,0,1,0;", 0, WHEN, 1);
        due("r0,1;t0,0,6,0;", 0, WHEN, 1);
        due("r0,6;t0,0,6,0;", 0, WHEN, 1);
        due("r0,7;t0,0,6,0;", 0, WHEN, 2);
        due("r0,60;t40,0,1,0;", 0, WHEN, 100);
        due("r0,59;t40,0,1,0;", 0, WHEN, 99);
        due("r0,60;t40,0,6,0;", 0, WHEN, 50);
    }

    // ---- a DRIFTING one one more for each 4 days (cut) it was on its way (modulo 24)

    static void term_drifting_oneMoreForEach4DaysCut() {
        int[] days = {1, 3, 4, 5, 7, 8, 11, 12, 59, 60};
        int[] drift = {0, 0, 1, 1, 1, 2, 2, 3, 14, 15};
        for (int k = 0; k < days.length; k++) {
            for (int place = 0; place < 24; place++) {
                String text = "r0," + days[k] + ";t5,2,1,3;n" + place + ",0,0,99;";
                due(text, 0, HOW, place == 2 + drift[k] ? CAUGHT : MISSED);
            }
            due("r0," + days[k] + ";t5,2,1,3;", 0, TO, 2);
        }
        // The days, not how far it is: 24 by 6 are 4 days, 19 by 6 too, 18 by 6 are 3.
        how("r0,24;t0,0,6,3;n1,0,0,99;", CAUGHT);
        how("r0,19;t0,0,6,3;n1,0,0,99;", CAUGHT);
        how("r0,18;t0,0,6,3;n1,0,0,99;", MISSED);
        how("r0,18;t0,0,6,3;n0,0,0,99;", CAUGHT);
    }

    static void term_drifting_modulo24() {
        how("r0,4;t0,22,1,3;n23,0,0,99;", CAUGHT);
        how("r0,4;t0,23,1,3;n0,0,0,99;", CAUGHT);
        how("r0,60;t0,8,1,3;n23,0,0,99;", CAUGHT);
        how("r0,60;t0,9,1,3;n0,0,0,99;", CAUGHT);
        how("r0,60;t0,23,1,3;n14,0,0,99;", CAUGHT);
    }

    static void term_drifting_theOtherKindsDoNot() {
        for (int kind = 0; kind <= 2; kind++) {
            how("r0,60;t0,0,1," + kind + ";n0,0,0,99;", CAUGHT);
            how("r0,60;t0,0,1," + kind + ";n15,3,0,99;", MISSED);
        }
    }

    // ---- CAUGHT, if a NET is out on that day that is at P no farther than W from it (round the shorter way)

    static void term_caught_noFartherThanW() {
        for (int w = 0; w <= 3; w++) {
            for (int place = 0; place < 24; place++) {
                int apart = Math.min(Math.abs(place - 12), 24 - Math.abs(place - 12));
                how("t0," + place + ",3,0;n12," + w + ",0,99;", apart <= w ? CAUGHT : MISSED);
            }
        }
    }

    static void term_caught_roundTheShorterWay() {
        how("t0,23,3,2;t0,22,3,2;t0,21,3,2;t0,20,3,2;n0,3,0,99;", CAUGHT, CAUGHT, CAUGHT, MISSED);
        how("t0,0,3,2;t0,1,3,2;t0,2,3,2;t0,3,3,2;n23,3,0,99;", CAUGHT, CAUGHT, CAUGHT, MISSED);
        how("t0,23,3,2;t0,22,3,2;n0,1,0,99;", CAUGHT, MISSED);
        how("t0,0,3,2;t0,1,3,2;n23,1,0,99;", CAUGHT, MISSED);
        how("t0,23,3,2;t0,0,3,2;n0,0,0,99;", MISSED, CAUGHT);
        how("t0,0,3,2;t0,23,3,2;n23,0,0,99;", MISSED, CAUGHT);
    }

    static void term_caught_fromDayFToDayU() {
        // Home on day 4.
        how("t0,0,3,0;n0,0,4,9;", CAUGHT);
        how("t0,0,3,0;n0,0,5,9;", MISSED);
        how("t0,0,3,0;n0,0,0,4;", CAUGHT);
        how("t0,0,3,0;n0,0,0,3;", MISSED);
        how("t0,0,3,0;n0,0,4,4;", CAUGHT);
        // On day 99, and on day 100, on which no net is out.
        how("r0,59;t40,0,1,0;n0,0,99,99;", CAUGHT);
        how("r0,60;t40,0,1,0;n0,0,0,99;", MISSED);
        // On day 1, the first on which one can come.
        how("r0,1;t0,0,1,0;n0,0,1,1;", CAUGHT);
        how("r0,1;t0,0,1,0;n0,0,0,0;", MISSED);
    }

    static void term_caught_byAnyOneNet() {
        how("t0,0,3,0;n9,0,0,99;n5,3,0,99;n0,0,0,3;n0,0,5,99;n0,0,4,4;", CAUGHT);
        how("t0,0,3,0;n9,0,0,99;n5,3,0,99;n0,0,0,3;n0,0,5,99;n1,0,4,4;", MISSED);
        how("t0,0,3,0;", MISSED);
        // The place of one net and the day of another catch nobody; one net catches more than one load.
        how("t0,0,3,0;n0,0,9,9;n9,0,4,4;", MISSED);
        how("t0,0,3,2;t1,0,3,2;n0,0,4,5;", CAUGHT, CAUGHT);
    }

    // ---- two LOADS thrown TO the same place MEET on the first day on which ...

    static void term_meet_thrownToTheSamePlace() {
        how("t0,5,3,2;t0,5,1,2;", MET, MET);
        how("t0,5,3,2;t0,6,1,2;", MISSED, MISSED);
        how("t0,5,3,2;t0,4,1,2;", MISSED, MISSED);
        how("r1,12;t0,22,3,2;t0,23,1,2;", MISSED, MISSED);
        // To 23 both, round the wrap: 0 and 23, then from 18 and 5.
        how("t0,23,6,0;t0,5,1,0;", MET, MET);
    }

    static void term_meet_bothAreThrown() {
        // On the very day of both throws, and not if one is thrown a day later.
        due("t4,0,3,2;t4,0,1,2;", 0, WHEN, 4);
        due("t4,0,3,2;t4,0,1,2;", 1, WHEN, 4);
        how("t4,0,3,2;t5,0,3,2;", MISSED, MISSED);
        how("t4,0,3,2;t5,0,2,2;", MISSED, MISSED);
        // They would be as far on days 2 and 3, ahead of both throws.
        how("r0,60;t4,0,2,2;t3,0,4,2;", MISSED, MISSED);
        how("r0,60;t5,0,1,2;t4,0,2,2;", MISSED, MISSED);
        // On the later one's second day: 3 from day 4, 6 from day 5, both 6 far on day 6.
        due("r0,7;t4,0,3,2;t5,0,6,2;", 0, WHEN, 6);
        due("r0,7;t4,0,3,2;t5,0,6,2;", 1, HOW, MET);
        due("t40,0,3,2;t40,0,1,2;", 1, WHEN, 40);
    }

    static void term_meet_neitherIsHomeOrWouldCome() {
        // Both are 6 far on day 3.
        how("r0,7;t0,0,2,2;t2,0,6,2;", MET, MET);
        how("r0,6;t0,0,2,2;t2,0,6,2;", MISSED, MISSED);
        how("r0,5;t0,0,2,2;t2,0,6,2;", MISSED, MISSED);
        due("r0,7;t0,0,2,2;t2,0,6,2;", 1, WHEN, 3);
        due("r0,6;t0,0,2,2;t2,0,6,2;", 0, WHEN, 3);
        due("r0,6;t0,0,2,2;t2,0,6,2;", 1, WHEN, 3);
        // As far as can be: 59 on day 59 by 1, 60 would be home.
        due("r0,60;t0,0,1,2;t29,0,2,2;", 1, WHEN, 58);
        how("r0,59;t0,0,1,2;t29,0,2,2;", MET, MET);
        how("r0,58;t0,0,1,2;t29,0,2,2;", MISSED, MISSED);
        // Where both are thrown they meet however near home is.
        how("r0,1;t0,0,1,2;t0,0,6,2;", MET, MET);
    }

    static void term_meet_asFarOnADayNotBetweenDays() {
        // 2 from day 0 and 4 from day 1 are as far on day 2; 6 from day 1 between days 1 and 2.
        how("r0,60;t0,0,2,2;t1,0,4,2;", MET, MET);
        due("r0,60;t0,0,2,2;t1,0,4,2;", 0, WHEN, 2);
        how("r0,60;t0,0,2,2;t1,0,6,2;", MISSED, MISSED);
    }

    static void term_meet_ofOneSpeed() {
        how("t0,0,3,2;t0,0,3,2;", MET, MET);
        due("t0,0,3,2;t0,0,3,2;", 0, WHEN, 0);
        how("t0,0,3,2;t1,0,3,2;", MISSED, MISSED);
        how("t7,0,1,2;t6,0,1,2;", MISSED, MISSED);
    }

    static void term_meet_driftingByWhereTheyAreThrown() {
        how("r0,60;t0,0,2,3;t1,2,4,2;", MET, MET);
        how("r0,60;t0,23,2,3;t20,2,4,2;", MISSED, MISSED);
        // Each drifts by five to where no other is, or both come to one place without having met.
        how("r0,20;t0,0,1,3;t0,7,1,2;n5,0,0,99;", CAUGHT, MISSED);
        how("r0,20;t0,0,1,3;t0,6,1,2;n5,0,20,20;", CAUGHT, CAUGHT);
    }

    static void term_meet_threeOrMoreAlike() {
        how("r0,7;t0,0,2,2;t1,0,3,2;t2,0,6,2;", MET, MET, MET);
        how("r0,6;t0,0,2,2;t1,0,3,2;t2,0,6,2;", MISSED, MISSED, MISSED);
        for (int i = 0; i < 3; i++) {
            due("r0,7;t0,0,2,2;t1,0,3,2;t2,0,6,2;", i, WHEN, 3);
        }
        String seven = "t9,0,1,2;t9,0,2,2;t9,0,3,2;t9,0,4,2;t9,0,5,2;t9,0,6,2;t9,0,1,2;";
        how(seven, MET, MET, MET, MET, MET, MET, MET);
        for (int i = 0; i < 7; i++) {
            due(seven, i, WHEN, 9);
        }
        // On one day, at two places: two pairs, each of its own.
        how("t0,0,3,2;t0,0,1,2;t0,1,3,2;t0,1,1,2;t0,2,3,2;", MET, MET, MET, MET, MISSED);
    }

    static void term_meet_whoIsLostMeetsNobodyAnyMore() {
        // The first two are lost on day 3; the third would meet the second on day 5.
        how("r0,20;t0,0,2,2;t1,0,3,2;t3,0,6,2;", MET, MET, MISSED);
        due("r0,20;t0,0,2,2;t1,0,3,2;t3,0,6,2;", 2, WHEN, 7);
        // Told the other way round it is the same.
        how("r0,20;t3,0,6,2;t1,0,3,2;t0,0,2,2;", MISSED, MET, MET);
        // Were the first one aimed elsewhere, the third would meet the second.
        how("r0,20;t0,1,2,2;t1,0,3,2;t3,0,6,2;", MISSED, MET, MET);
        due("r0,20;t0,1,2,2;t1,0,3,2;t3,0,6,2;", 2, WHEN, 5);
        // Lost on day 3, and two more, thrown later, that meet on day 6.
        how("r0,30;t0,0,2,2;t1,0,3,2;t4,0,3,2;t5,0,6,2;", MET, MET, MET, MET);
        due("r0,30;t0,0,2,2;t1,0,3,2;t4,0,3,2;t5,0,6,2;", 3, WHEN, 6);
        // Lost on the day of the throw, so the one from the day ahead goes on and is met by nobody.
        how("r0,20;t0,0,2,2;t1,0,4,2;t1,0,3,2;", MISSED, MET, MET);
    }

    // ---- HOW, WHEN, PAID

    static void term_how_caughtMissedMet() {
        how("t0,0,3,2;t0,1,3,2;t0,2,3,2;t0,2,3,2;n0,0,0,99;", CAUGHT, MISSED, MET, MET);
        due("t0,0,3,2;t0,1,3,2;t0,2,3,2;t0,2,3,2;n0,0,0,99;", 0, WHEN, 4);
        due("t0,0,3,2;t0,1,3,2;t0,2,3,2;t0,2,3,2;n0,0,0,99;", 1, WHEN, 4);
        due("t0,0,3,2;t0,1,3,2;t0,2,3,2;t0,2,3,2;n0,0,0,99;", 2, WHEN, 0);
    }

    static void term_paid_thePriceOfTheDayCaughtElse0() {
        String text = "t0,0,3,2;t0,1,3,2;t0,2,3,2;t0,2,3,2;n0,0,0,99;p5,2;";
        due(text, 0, PAID, 14);
        due(text, 1, PAID, 0);
        due(text, 2, PAID, 0);
        due(text, 3, PAID, 0);
        // The lowest price is 1, not 0; the highest 50; the latest day 99.
        due("t0,0,3,2;n0,0,0,99;p0,0;", 0, PAID, 1);
        due("t0,0,3,2;n0,0,0,99;p46,1;", 0, PAID, 1);
        due("t0,0,3,2;n0,0,0,99;p45,1;", 0, PAID, 50);
        due("r0,59;t40,0,1,2;n0,0,99,99;p1,1;", 0, PAID, 1);
        due("r0,59;t40,0,1,2;n0,0,99,99;p0,1;", 0, PAID, 50);
        due("r0,60;t40,0,1,2;n0,0,0,99;p9,0;", 0, PAID, 0);
    }
}
