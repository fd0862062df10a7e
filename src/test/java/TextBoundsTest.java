import java.nio.charset.StandardCharsets;

/** The document's first part, what a text is: a test of its own for each sentence that names a bound, on both sides. */
final class TextBoundsTest {
    private static final Checks C = new Checks();
    private static final int NO = -2, FULL = -3, NONE = -4;
    private static final String SEVEN = "t0,0,1,0;t1,0,1,0;t2,0,1,0;t3,0,1,0;t4,0,1,0;t5,0,1,0;t6,0,1,0;";
    private static final String FIVE = "n0,0,0,0;n1,0,0,0;n2,0,0,0;n3,0,0,0;n4,0,0,0;";

    public static void main(String[] args) {
        C.runAll(TextBoundsTest.class);
    }

    /** Every number that two figures can tell, in the place of # in an item: so from low to high, else not. */
    private static void numbers(String item, int low, int high) {
        for (int number = 0; number <= 99; number++) {
            String text = item.replace("#", "" + number);
            if (number >= low && number <= high) {
                C.so(text);
                C.so("p0,0;" + text);
            } else {
                C.notSo(text, 0);
                C.notSo("p0,0;" + text, 5);
            }
        }
    }

    /** Every byte in the place of # in a text: so for those in good, else a fault at the place. */
    private static void bytes(String text, String good, int place) {
        for (char sign = 0; sign <= 255; sign++) {
            String told = text.replace('#', sign);
            C.due("fault of " + told + ", sign " + (int) sign, Checks.told(told).fault(), good.indexOf(sign) >= 0 ? NONE : place);
        }
    }

    private static void load(ThrownHome x, int i, int... want) {
        for (int what = 0; what < want.length; what++) {
            C.due("load(" + i + ", " + what + ")", x.load(i, what), want[what]);
        }
    }

    // ---- a TEXT is bytes (300 at most)

    static void term_text_empty() {
        ThrownHome x = new ThrownHome();
        C.due("bytes", x.count(6), 0);
        C.due("fault", x.fault(), NONE);
        C.due("lay", x.lay(), NO);
        C.due("wipe", x.wipe(), 0);
    }

    static void term_text_300BytesAtMost() {
        ThrownHome x = Checks.told("p1,1;".repeat(60));
        C.due("300 bytes", x.count(6), 300);
        C.due("all 300 are read", x.fault(), NONE);
        C.due("the 301st", x.write(1, ';'), FULL);
        C.due("as long as before", x.count(6), 300);
        C.due("as before", x.fault(), NONE);
        C.due("wiped", x.wipe(), 300);
        C.due("room again", x.write(8, 0), 8);
    }

    static void term_text_lastByteOf300IsRead() {
        C.due("the last ; is missing", Checks.told("p1,1;".repeat(59) + "p1,11").fault(), 295);
        C.due("the last ; is missing", Checks.told("p1,1;".repeat(58) + "p1,11;r0,1").fault(), 296);
        C.due("the last byte is all of an item", Checks.told("p1,1;".repeat(55) + "p1,11;".repeat(4) + "p").fault(), 299);
    }

    static void term_text_lastItemThatFits() {
        // 57 times 5 and 6 are 291: the throw's nine bytes fit to the last.
        ThrownHome fits = Checks.told("p1,1;".repeat(57) + "p1,11;" + "t7,0,1,0;");
        C.due("bytes", fits.count(6), 300);
        C.due("fault", fits.fault(), NONE);
        C.due("lay", fits.lay(), 1);
        C.due("its day", fits.load(0, 0), 7);
        // 56 times 5 and 12 are 292: the throw's ; is the 301st byte.
        ThrownHome over = Checks.told("p1,1;".repeat(56) + "p1,11;p1,11;" + "t7,0,1,0");
        C.due("bytes", over.count(6), 300);
        C.due("its ;", over.write(1, ';'), FULL);
        C.due("fault", over.fault(), 292);
        C.due("lay", over.lay(), NO);
    }

    static void term_text_isBytesFrom0To255() {
        for (int sign = 0; sign <= 255; sign++) {
            ThrownHome x = new ThrownHome();
            C.due("write a byte", x.write(1, sign), 1);
            C.due("one byte is no item, sign " + sign, x.fault(), 0);
        }
        // The letters and signs with their highest bit set are others.
        C.notSo("\u00f20,12;", 0);
        C.notSo("r\u00b0,12;", 0);
        C.notSo("r0\u00ac12;", 0);
        C.notSo("r0,12\u00bb", 0);
    }

    // ---- ITEMS one behind the other, each a letter, numbers parted by , and ;

    static void term_items_oneBehindTheOther() {
        C.so("r1,2;t3,4,5,1;n6,2,8,9;p10,11;");
        C.so("p10,11;n6,2,8,9;t3,4,5,1;r1,2;");
        C.notSo("r1,2; t3,4,5,1;", 5);
        C.notSo("r1,2;;t3,4,5,1;", 5);
        C.notSo("r1,2;,t3,4,5,1;", 5);
        C.notSo("r1,2;\nt3,4,5,1;", 5);
        C.notSo(" r1,2;", 0);
        C.notSo("r1,2; ", 5);
        C.notSo("r1,2;t3,4,5,1;0", 14);
    }

    static void term_items_letterIsOneOfFour() {
        bytes("#1,2;", "rp", 0);
        bytes("#1,2,3,1;", "tn", 0);
        bytes("p0,0;#1,2;", "rp", 5);
        bytes("p0,0;#1,2,3,1;", "tn", 5);
        C.notSo("1,2;", 0);
        C.notSo("rr1,2;", 0);
    }

    static void term_items_numberOfOneOrTwoFigures() {
        C.so("r1,2;");
        C.so("r12,34;");
        C.so("r01,02;");
        C.so("r00,01;");
        C.so("t01,02,03,00;");
        C.so("n01,02,00,09;");
        C.notSo("r,2;", 0);
        C.notSo("r1,;", 0);
        C.notSo("r001,2;", 0);
        C.notSo("r1,012;", 0);
        C.notSo("r1,123;", 0);
        C.notSo("t,0,1,0;", 0);
        C.notSo("t0,,1,0;", 0);
        C.notSo("t0,0,,0;", 0);
        C.notSo("t0,0,1,;", 0);
        C.notSo("t000,0,1,0;", 0);
        C.notSo("t0,0,001,0;", 0);
        C.notSo("t0,0,1,000;", 0);
        C.notSo("n0,0,100,0;", 0);
        C.notSo("n0,0,0,100;", 0);
        C.notSo("n0,000,0,0;", 0);
        C.notSo("p000,0;", 0);
        C.notSo("p0,000;", 0);
    }

    static void term_items_figuresAre0To9() {
        bytes("r#,12;", "0123456789", 0);
        bytes("p1,#;", "0123456789", 0);
        bytes("p1,#2;", "01234", 0);
        bytes("r1#,12;", "0123456789", 0);
        bytes("t0,0,#,0;", "123456", 0);
        bytes("n0,0,0,#1;", "0123456789", 0);
        C.notSo("r-1,12;", 0);
        C.notSo("r+1,12;", 0);
        C.notSo("r1.,12;", 0);
    }

    static void term_items_zeroAheadCountsNothing() {
        ThrownHome x = Checks.laid("r07,09;t03,05,02,01;n08,01,03,04;p06,02;");
        C.due("the rock", x.count(2), 7);
        C.due("home", x.count(3), 9);
        load(x, 0, 3, 5, 2, 1, 12, 3);
        C.due("price", x.price(1), 9);
    }

    static void term_items_partedByComma() {
        bytes("r1#2;", ",", 0);
        bytes("p1#2;", ",", 0);
        bytes("t1#2,3,0;", ",", 0);
        bytes("t1,2#3,0;", ",", 0);
        bytes("t1,2,3#0;", ",", 0);
        bytes("n1#2,3,0;", ",", 0);
        bytes("n1,2#3,0;", ",", 0);
        bytes("n1,2,3#0;", ",", 0);
        C.notSo("r1,,2;", 0);
        C.notSo("r,1,2;", 0);
        C.notSo("r1;2;", 0);
    }

    static void term_items_semicolonBehindTheLastOneToo() {
        bytes("r1,12#", ";", 0);
        bytes("t1,12,3,00#", ";", 0);
        bytes("n1,2,3,10#", ";", 0);
        bytes("p1,12#", ";", 0);
        bytes("r1,12#t1,12,3,0;", ";", 0);
        C.notSo("r1,12", 0);
        C.notSo("r1,12;t1,12,3,0", 6);
        C.notSo("r1,12;t1,12,3,", 6);
        C.notSo("r1,12;t1,12,3", 6);
        C.notSo("r1,12;t1,12,", 6);
        C.notSo("r1,12;t1,12", 6);
        C.notSo("r1,12;t1,1", 6);
        C.notSo("r1,12;t1,", 6);
        C.notSo("r1,12;t1", 6);
        C.notSo("r1,12;t", 6);
        C.so("r1,12;");
        C.so("r1,12;t1,12,3,0;");
    }

    static void term_items_asManyNumbersAsTold() {
        C.notSo("r1;", 0);
        C.so("r1,1;");
        C.notSo("r1,1,1;", 0);
        C.notSo("p1;", 0);
        C.so("p1,1;");
        C.notSo("p1,1,1;", 0);
        C.notSo("t1,1,1;", 0);
        C.so("t1,1,1,1;");
        C.notSo("t1,1,1,1,1;", 0);
        C.notSo("n1,1,1;", 0);
        C.so("n1,1,1,1;");
        C.notSo("n1,1,1,1,1;", 0);
        C.notSo("r;", 0);
        C.notSo("t;", 0);
        C.notSo("n;", 0);
        C.notSo("p;", 0);
    }

    // ---- rS,D

    static void term_rock_sFrom0To23() {
        numbers("r#,12;", 0, 23);
        C.due("the lowest", Checks.laid("r0,12;t0,0,1,0;").count(2), 0);
        C.due("the highest", Checks.laid("r23,12;t0,0,1,0;").count(2), 23);
    }

    static void term_rock_dFrom1To60() {
        numbers("r0,#;", 1, 60);
        C.due("the lowest", Checks.laid("r0,1;t0,0,1,0;").count(3), 1);
        C.due("the highest", Checks.laid("r0,60;t0,0,1,0;").count(3), 60);
    }

    static void term_rock_0And12Without() {
        ThrownHome x = Checks.laid("t0,0,1,0;");
        C.due("stands", x.count(2), 0);
        C.due("home", x.count(3), 12);
        ThrownHome later = Checks.laid("r5,6;t0,0,1,0;");
        later.wipe();
        Checks.tell(later, "t0,0,1,0;");
        C.due("lay", later.lay(), 1);
        C.due("stands, not as before", later.count(2), 0);
        C.due("home, not as before", later.count(3), 12);
    }

    static void term_rock_ofSeveralTheLastOneCounts() {
        ThrownHome two = Checks.laid("r1,2;r3,4;t0,0,1,0;");
        C.due("stands", two.count(2), 3);
        C.due("home", two.count(3), 4);
        ThrownHome three = Checks.laid("r1,2;t0,0,1,0;r3,4;r23,60;");
        C.due("stands", three.count(2), 23);
        C.due("home", three.count(3), 60);
        ThrownHome back = Checks.laid("r3,4;r0,12;t0,0,1,0;");
        C.due("stands as without", back.count(2), 0);
        C.due("home as without", back.count(3), 12);
        C.so("r1,2;".repeat(60));
    }

    // ---- tT,A,V,K

    static void term_throw_tFrom0To40() {
        numbers("t#,0,1,0;", 0, 40);
        load(Checks.laid("t0,0,1,0;"), 0, 0);
        load(Checks.laid("t40,0,1,0;"), 0, 40);
    }

    static void term_throw_aFrom0To23() {
        numbers("t0,#,1,0;", 0, 23);
        load(Checks.laid("t0,0,1,0;"), 0, 0, 0);
        load(Checks.laid("t0,23,1,0;"), 0, 0, 23);
    }

    static void term_throw_vFrom1To6() {
        numbers("t0,0,#,0;", 1, 6);
        load(Checks.laid("t0,0,1,0;"), 0, 0, 0, 1);
        load(Checks.laid("t0,0,6,0;"), 0, 0, 0, 6);
    }

    static void term_throw_kFrom0To3() {
        numbers("t0,0,1,#;", 0, 3);
        for (int kind = 0; kind <= 3; kind++) {
            load(Checks.laid("t0,0,1," + kind + ";"), 0, 0, 0, 1, kind);
        }
    }

    static void term_throw_allNumbersAtTheirHighest() {
        load(Checks.laid("t40,23,6,3;"), 0, 40, 23, 6, 3);
        load(Checks.laid("t0,0,1,0;"), 0, 0, 0, 1, 0);
    }

    static void term_throw_sevenAtMost() {
        C.so(SEVEN);
        C.due("seven", Checks.laid(SEVEN).count(0), 7);
        C.notSo(SEVEN + "t0,0,1,0;", 63);
        C.notSo(SEVEN + "t7,0,1,0;t8,0,1,0;", 63);
        C.notSo(SEVEN + "r1,2;n0,0,0,0;t7,0,1,0;", 77);
        C.so(SEVEN + "r1,2;n0,0,0,0;");
        C.notSo("t9,9,1,0;" + SEVEN, 63);
    }

    static void term_throw_numberedFrom0OnAsTold() {
        ThrownHome x = Checks.laid("t9,1,1,0;n0,0,0,0;t3,2,1,0;t9,3,1,0;r1,2;t0,4,1,0;t5,5,1,0;t6,6,1,0;t1,7,1,0;");
        int[] days = {9, 3, 9, 0, 5, 6, 1};
        for (int i = 0; i < days.length; i++) {
            load(x, i, days[i], i + 1);
        }
        C.due("there is no throw 7", x.load(7, 0), -1);
    }

    // ---- nP,W,F,U

    static void term_net_pFrom0To23() {
        numbers("n#,0,0,0;", 0, 23);
        C.due("at 0", Checks.laid("t0,0,3,0;n0,0,0,99;").all(0), 1);
        C.due("at 23", Checks.laid("t0,23,3,0;n23,0,0,99;").all(0), 1);
    }

    static void term_net_wFrom0To3() {
        numbers("n0,#,0,0;", 0, 3);
        for (int w = 0; w <= 3; w++) {
            C.due("as far as it is wide", Checks.laid("t0," + w + ",3,0;n0," + w + ",0,99;").all(0), 1);
            C.due("one farther", Checks.laid("t0," + (w + 1) + ",3,0;n0," + w + ",0,99;").all(0), 0);
        }
    }

    static void term_net_fFrom0To99() {
        numbers("n0,0,#,0;", 0, 99);
        C.notSo("n0,0,100,0;", 0);
    }

    static void term_net_uFrom0To99() {
        numbers("n0,0,0,#;", 0, 99);
        C.notSo("n0,0,0,100;", 0);
    }

    static void term_net_neverIfUIsLess() {
        C.so("n0,0,99,0;");
        // The load is home on day 4.
        C.due("out on the one day", Checks.laid("t0,0,3,0;n0,0,4,4;").load(0, 6), 0);
        C.due("U one less", Checks.laid("t0,0,3,0;n0,0,4,3;").load(0, 6), 1);
        C.due("U one less", Checks.laid("t0,0,3,0;n0,0,5,4;").load(0, 6), 1);
        C.due("U less by far", Checks.laid("t0,0,3,0;n0,3,99,0;").load(0, 6), 1);
        C.due("it is a net", Checks.laid("t0,0,3,0;n0,3,99,0;").count(1), 1);
    }

    static void term_net_fiveAtMost() {
        C.so(FIVE);
        C.due("five", Checks.laid(FIVE + "t0,0,1,0;").count(1), 5);
        C.due("the fifth is out", Checks.laid(FIVE.replace("n4,0,0,0", "n4,0,0,99") + "t0,4,1,0;").load(0, 6), 0);
        C.notSo(FIVE + "n5,0,0,0;", 45);
        C.notSo(FIVE + "n5,0,5,0;", 45);
        C.notSo(FIVE + "t0,0,1,0;n0,0,0,0;", 54);
        C.notSo("n9,0,5,0;" + FIVE, 45);
        C.so(FIVE + SEVEN);
        C.due("without a net", Checks.laid("t0,0,1,0;").count(1), 0);
    }

    // ---- pX,Y

    static void term_price_xFrom0To49() {
        numbers("p#,0;", 0, 49);
        C.due("the lowest", Checks.laid("p0,0;t0,0,1,0;").price(9), 1);
        C.due("the highest", Checks.laid("p49,0;t0,0,1,0;").price(9), 50);
    }

    static void term_price_yFrom0To49() {
        numbers("p0,#;", 0, 49);
        C.due("the lowest", Checks.laid("p0,0;t0,0,1,0;").price(1), 1);
        C.due("the highest", Checks.laid("p0,49;t0,0,1,0;").price(1), 50);
    }

    static void term_price_modulo50And1() {
        ThrownHome x = Checks.laid("p1,1;t0,0,1,0;");
        C.due("48 and 1", x.price(47), 49);
        C.due("49 and 1, the highest price", x.price(48), 50);
        C.due("50 is 0, and 1, the lowest price", x.price(49), 1);
        C.due("51 is 1, and 1", x.price(50), 2);
        C.due("99 is 49", x.price(98), 50);
        C.due("100 is 0", x.price(99), 1);
        ThrownHome high = Checks.laid("p49,49;t0,0,1,0;");
        C.due("49 and no day", high.price(0), 50);
        C.due("98 is 48", high.price(1), 49);
        C.due("49 and 98 times 49, 4851, is 1", high.price(98), 2);
        C.due("49 and 99 times 49, 4900, is 0", high.price(99), 1);
        C.due("49 and 1 are 0", Checks.laid("p49,1;t0,0,1,0;").price(1), 1);
    }

    static void term_price_0And7Without() {
        ThrownHome x = Checks.laid("t0,0,1,0;");
        C.due("day 0", x.price(0), 1);
        C.due("day 1", x.price(1), 8);
        C.due("day 7", x.price(7), 50);
        C.due("day 8", x.price(8), 7);
        ThrownHome later = Checks.laid("p3,4;t0,0,1,0;");
        later.wipe();
        Checks.tell(later, "t0,0,1,0;");
        C.due("lay", later.lay(), 1);
        C.due("not as before", later.price(0), 1);
        C.due("not as before", later.price(1), 8);
    }

    static void term_price_ofSeveralTheLastOneCounts() {
        ThrownHome two = Checks.laid("p1,2;p3,4;t0,0,1,0;");
        C.due("day 0", two.price(0), 4);
        C.due("day 1", two.price(1), 8);
        ThrownHome three = Checks.laid("p1,2;t0,0,1,0;p3,4;p49,0;");
        C.due("day 0", three.price(0), 50);
        C.due("day 1", three.price(1), 50);
        C.due("as without", Checks.laid("p1,2;p0,7;t0,0,1,0;").price(1), 8);
    }

    // ---- FAULT

    static void term_fault_placesFrom0On() {
        C.notSo("r24,1;", 0);
        C.notSo("r23,1;r24,1;", 6);
        C.notSo("r2,1;r24,1;", 5);
        C.due("at place 299", Checks.told("p1,1;".repeat(55) + "p1,11;".repeat(4) + "r").fault(), 299);
        C.due("at place 295", Checks.told("p1,1;".repeat(59) + "r0,0;").fault(), 295);
    }

    static void term_fault_isTheItemsFirstByte() {
        C.notSo("p0,0;t0,0,1,4;", 5);
        C.notSo("p0,0;t0,0,1,0x", 5);
        C.notSo("p0,0;t0,0,1,0,", 5);
        C.notSo("p0,0;n0,0,0,0,0;", 5);
    }

    static void term_fault_firstOfSeveral() {
        C.notSo("r24,1;r0,0;", 0);
        C.notSo("p0,0;r24,1;r0,0;", 5);
        C.notSo("p0,0;x;r0,1;", 5);
        C.notSo("p0,0;r0,61;" + SEVEN + "t0,0,1,0;", 5);
        C.notSo(SEVEN + "t0,0,1,0;r24,1;", 63);
    }

    static void term_fault_noneIfAllIsSo() {
        C.so("");
        C.so("r0,1;");
        C.so(SEVEN + FIVE + "r23,60;p49,49;");
    }

    // ---- LAID

    static void term_laid_ofAThrowAtLeast() {
        Whole.refused(C, "the empty text", ThrownHome::new, ThrownHome::lay, NO);
        Whole.refused(C, "no throw", () -> Checks.told("r1,2;n0,0,0,99;p3,4;"), ThrownHome::lay, NO);
        C.due("one throw", Checks.told("t0,0,1,0;").lay(), 1);
        C.due("two throws", Checks.told("t0,0,1,0;t0,0,1,0;").lay(), 2);
        C.due("seven throws", Checks.told(SEVEN).lay(), 7);
    }

    static void term_laid_withoutFault() {
        Whole.refused(C, "a fault behind a throw", () -> Checks.told("t0,0,1,0;r24,1;"), ThrownHome::lay, NO);
        Whole.refused(C, "a fault ahead of a throw", () -> Checks.told("r24,1;t0,0,1,0;"), ThrownHome::lay, NO);
        Whole.refused(C, "the eighth throw", () -> Checks.told(SEVEN + "t0,0,1,0;"), ThrownHome::lay, NO);
        Whole.refused(C, "the sixth net", () -> Checks.told("t0,0,1,0;" + FIVE + "n0,0,0,0;"), ThrownHome::lay, NO);
        Whole.refused(C, "cut off", () -> Checks.told("t0,0,1,0;t0,0,1"), ThrownHome::lay, NO);
    }

    static void term_laid_atFirst() {
        ThrownHome x = new ThrownHome();
        ThrownHome told = Checks.laid("t0,0,3,0;t1,3,3,0;n0,0,0,99;");
        told.wipe();
        C.due("as if it had been told", Whole.seen(x).equals(Whole.seen(told)) ? 1 : 0, 1);
        C.due("throws", new ThrownHome().count(0), 2);
        C.due("nets", new ThrownHome().count(1), 1);
    }

    static void term_laid_nothingOfTheOneBeforeIsLeft() {
        // Behind seven throws and five nets one throw and one net: the others are no more, wherever they are looked for.
        ThrownHome x = Checks.laid("t0,9,1,2;t0,8,1,2;t0,7,1,2;t0,6,1,2;t0,5,1,2;t0,4,1,2;t0,3,1,2;" + FIVE.replace(",0;", ",99;"));
        C.due("seven", x.all(0) + x.all(1), 7);
        C.due("the second one", x.stray(0, 8, 0), 2);
        x.wipe();
        Checks.tell(x, "t0,1,1,2;n9,0,0,99;");
        C.due("lay", x.lay(), 1);
        C.due("one is missed", x.all(1), 1);
        C.due("none is caught by the nets before", x.all(0), 0);
        C.due("one net", x.count(1), 1);
        for (int place = 0; place < 24; place++) {
            C.due("a stray to " + place, x.stray(0, place, 0), place == 1 ? 1 : 0);
        }
    }

    static void term_laid_aTextThatIsNotLaidCountsForNothing() {
        ThrownHome x = Checks.told("r9,1;p9,9;t5,5,1,2;t6,6,1,2;t7,7,1,2;n3,3,0,99;");
        C.due("fault", x.fault(), NONE);
        C.due("price", x.price(1), 8);
        C.due("meeters", x.meeters(0, 0), 7);
        C.due("stray", x.stray(3, 0, 2), 2);
        C.due("stray", x.stray(0, 15, 6), 0);
        C.due("nets", x.net(0, 1), 2);
        C.due("stands", x.stand(18, 1, 0), 0);
        C.due("year", x.year(0, 2), 18);
    }

    static void term_bytes_areToldHighestFirst() {
        byte[] bytes = "t1,2,3,0".getBytes(StandardCharsets.ISO_8859_1);
        ThrownHome x = new ThrownHome();
        x.write(8, Checks.number(bytes, 0, 8));
        x.write(1, ';');
        C.due("lay", x.lay(), 1);
        load(x, 0, 1, 2, 3, 0);
    }
}
