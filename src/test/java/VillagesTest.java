/** Promises 1 to 7: a new object, village, of, gap, type, valley, count. */
public final class VillagesTest {
    private static final Due due = new Due();

    public static void main(String[] args) {
        promise1();
        promise2();
        promise3();
        promise3Kinds();
        promise4();
        promise5();
        promise6();
        promise6Faults();
        promise6Blanks();
        promise6Replaces();
        promise7();
        due.end();
    }

    private static void promise1() {
        NineNoons x = new NineNoons();
        long[] counts = {0, 0, 30, 0, 0, 0, 0};
        for (int what = 0; what < counts.length; what++) {
            due.is("1: count(" + what + ")", x.count(what), counts[what]);
        }
        due.is("1: undo", x.undo(), NineNoons.NONE);
        due.is("1: restore", x.restore(), NineNoons.NONE);
        due.is("1: the draw", x.seed(0), 1);
        due.is("1: the tape", x.valley(), -20);
        for (int sheet = 0; sheet < 4; sheet++) {
            due.is("1: drop(" + sheet + ")", x.drop(sheet), NineNoons.NULL);
        }
    }

    private static void promise2() {
        NineNoons x = new NineNoons();
        int[][] bad = {{-1, 0, 0}, {5, 0, 0}, {0, -1, 0}, {0, 60, 0}, {0, 0, -10}, {0, 0, 10},
            {Integer.MIN_VALUE, 0, 0}, {0, Integer.MAX_VALUE, 0}};
        for (int[] b : bad) {
            due.is("2: bad village", x.village(b[0], b[1], b[2]), NineNoons.BAD);
        }
        due.is("2: none came", x.count(0), 0);
        x.days(3);
        due.is("2: first", x.village(4, 59, 9), 0);
        due.is("2: leaves nothing to be undone", x.count(6), 0);
        due.is("2: the day stays", x.count(1), 3);
        due.is("2: kind", x.of(0, 0), 4);
        due.is("2: minute", x.of(0, 1), 59);
        due.is("2: drift", x.of(0, 2), 18);
        due.is("2: miles", x.of(0, 3), 0);
        for (int n = 1; n < 6; n++) {
            due.is("2: next", x.village(0, n, -9), n);
        }
        x.set(0, 7);
        due.is("2: full", x.village(0, 0, 0), NineNoons.FULL);
        due.is("2: bad ahead of full", x.village(5, 0, 0), NineNoons.BAD);
        due.is("2: a refused one leaves what may be undone", x.count(6), 1);
        due.is("2: six", x.count(0), 6);
    }

    private static void promise3() {
        NineNoons x = Due.of("p5+4@3,s5-7@12,h5+0");
        long[][] want = {{0, 5, 13, 3, 34, 6}, {1, 5, 2, 12, 27, 5}, {2, 5, 9, 0, 30, 3}};
        for (int village = 0; village < 3; village++) {
            for (int what = 0; what < 6; what++) {
                due.is("3: of(" + village + ", " + what + ")", x.of(village, what), want[village][what]);
            }
        }
        due.is("3: no such village", x.of(3, 0), NineNoons.BAD);
        due.is("3: village -1", x.of(-1, 0), NineNoons.BAD);
        due.is("3: what -1", x.of(0, -1), NineNoons.BAD);
        due.is("3: what 6", x.of(0, 6), NineNoons.BAD);
        due.is("3: none there", new NineNoons().of(0, 0), NineNoons.BAD);
    }

    /** By how many minutes one is later, by kind, with its edges. */
    private static void promise3Kinds() {
        due.is("3: plain", Due.of("p0-9").of(0, 4), 21);
        due.is("3: slow is cut towards 0", Due.of("s0-9").of(0, 4), 26);
        due.is("3: slow 9", Due.of("s0+9").of(0, 4), 34);
        due.is("3: slow 1", Due.of("s0-1").of(0, 4), 30);
        due.is("3: hearer alone", Due.of("h0+9").of(0, 4), 39);
        due.is("3: hearer, gap 4", Due.of("h58+9,p2+0").of(0, 4), 39);
        due.is("3: hearer, gap 3 round the hour", Due.of("h58+9,p1+0").of(0, 4), 30);
        due.is("3: hearer, gap 0", Due.of("p1+0,h1+9").of(1, 4), 30);
        NineNoons foggy = Due.of("f0-9");
        due.is("3: foggy on an even day", foggy.of(0, 4), 26);
        foggy.days(1);
        due.is("3: foggy on an odd day", foggy.of(0, 4), 34);
        due.is("3: cousin alone", Due.of("c0+9").of(0, 4), 39);
        due.is("3: cousin, 10 miles", Due.of("p30+0@30,c0+9@40").of(1, 4), 40);
        due.is("3: cousin, 10 miles the other way", Due.of("p30+0@40,c0+9@30").of(1, 4), 40);
        due.is("3: cousin, 11 miles", Due.of("p30+0@29,c0+9@40").of(1, 4), 39);
        due.is("3: cousin 0 is by the last one", Due.of("c0+9,p20+0@40,p40+0@5").of(0, 4), 40);
        due.is("3: cousin 0, not by the next one", Due.of("c0+9,p20+0@5,p40+0@40").of(0, 4), 39);
        due.is("3: cousin by one before, not by others", Due.of("p0+0@40,p20+0@40,c40-9@40,p50+0@0").of(2, 4), 22);
        due.is("3: cousin that hears and is near", Due.of("p2+0,c0+9").of(1, 4), 31);
        due.is("3: cousin that hears and is far", Due.of("p2+0,c0+9@11").of(1, 4), 30);
    }

    private static void promise4() {
        NineNoons x = Due.of("p0+0,p30+0,p31+0,p59+0");
        long[][] want = {{0, 30, 29, 1}, {30, 0, 1, 29}, {29, 1, 0, 28}, {1, 29, 28, 0}};
        for (int a = 0; a < 4; a++) {
            for (int b = 0; b < 4; b++) {
                due.is("4: gap(" + a + ", " + b + ")", x.gap(a, b), a == b ? NineNoons.BAD : want[a][b]);
            }
        }
        due.is("4: no such village", x.gap(0, 4), NineNoons.BAD);
        due.is("4: no such other", x.gap(4, 0), NineNoons.BAD);
        due.is("4: below 0", x.gap(-1, 0), NineNoons.BAD);
        due.is("4: below 0", x.gap(0, -1), NineNoons.BAD);
    }

    private static void promise5() {
        NineNoons x = new NineNoons();
        due.is("5: 31", x.type(31), NineNoons.BAD);
        due.is("5: 127", x.type(127), NineNoons.BAD);
        due.is("5: as a char it would be p", x.type(65536 + 'p'), NineNoons.BAD);
        due.is("5: -1", x.type(-1), NineNoons.BAD);
        due.is("5: 32", x.type(32), 1);
        due.is("5: 126", x.type(126), 2);
        for (int n = 3; n <= 60; n++) {
            due.is("5: type", x.type('p'), n);
        }
        due.is("5: full", x.type('p'), NineNoons.FULL);
        due.is("5: bad ahead of full", x.type(127), NineNoons.BAD);
        due.is("5: the 126 can't stand there", x.valley(), -21);
        due.is("5: the tape is empty then", x.type('p'), 1);
    }

    private static void promise6() {
        NineNoons x = new NineNoons();
        due.is("6: six", Due.valley(x, "p0+0,s1-1@1,h20+2@9,f31-3@10,c42+8@39,p59-9@40"), 6);
        long[][] want = {{0, 0, 9, 0}, {1, 1, 8, 1}, {2, 20, 11, 9}, {3, 31, 6, 10}, {4, 42, 17, 39}, {0, 59, 0, 40}};
        for (int village = 0; village < 6; village++) {
            for (int what = 0; what < 4; what++) {
                due.is("6: of(" + village + ", " + what + ")", x.of(village, what), want[village][what]);
            }
        }
        due.is("6: 60 letters", Due.valley(x, "p5+1" + " ".repeat(51) + ",s1-1"), 2);
        due.is("6: leading noughts", Due.valley(x, "p05+0@07"), 1);
        due.is("6: minute", x.of(0, 1), 5);
        due.is("6: miles", x.of(0, 3), 7);
        due.is("6: 0 less", Due.valley(x, "p0-0"), 1);
        due.is("6: drift 0", x.of(0, 2), 9);
    }

    private static void fault(String text, int place) {
        due.is("6: fault of '" + text + "'", Due.valley(new NineNoons(), text), -20 - place);
    }

    private static void promise6Faults() {
        fault("", 0);
        fault("P5+1", 0);
        fault("x", 0);
        fault("5", 0);
        fault(",p5+1", 0);
        fault("p", 1);
        fault("p+1", 1);
        fault("pp", 1);
        fault("p60+1", 1);
        fault("p99", 1);
        fault("p600+1", 1);
        fault("p5", 2);
        fault("p59", 3);
        fault("p123+1", 3);
        fault("p5*1", 2);
        fault("p5,", 2);
        fault("p5+", 3);
        fault("p5+x", 3);
        fault("p5+-1", 3);
        fault("p5+12", 4);
        fault("p5+1@", 5);
        fault("p5+1@x", 5);
        fault("p5+1@-1", 5);
        fault("p5+1@41", 5);
        fault("p5+1@410", 5);
        fault("p5+1@400", 7);
        fault("p5+1@4@", 6);
        fault("p5+1s", 4);
        fault("p5+1,", 5);
        fault("p5+1@3,", 7);
        fault("p5+1,,", 5);
        fault("p5+1,p6", 7);
        fault("p5+1,p60x", 6);
        fault("p1+0,p2+0,p3+0,p4+0,p5+0,p6+0,p7+0", 29);
        fault("p1+0,p2+0,p3+0,p4+0,p5+0,p6+0@4,", 31);
        fault("p1+0,p2+0,p3+0,p4+0,p5+0,p6+0x", 29);
    }

    private static void promise6Blanks() {
        NineNoons x = new NineNoons();
        due.is("6: blanks", Due.valley(x, "  p 12 + 3 @ 40 , s 7 - 2  "), 2);
        due.is("6: minute", x.of(0, 1), 12);
        due.is("6: drift", x.of(0, 2), 12);
        due.is("6: miles", x.of(0, 3), 40);
        due.is("6: drift", x.of(1, 2), 7);
        fault("   ", 3);
        fault("  x", 2);
        fault("p1 2+3", 3);
        fault("p1  2+3", 4);
        fault("p  60+3", 3);
        fault("p12  ", 5);
        fault("p12+3@4 0", 8);
        fault("p12+3  4", 7);
        fault("p12+3 , ", 8);
    }

    private static void promise6Replaces() {
        NineNoons again = new NineNoons();
        Due.valley(again, "p123+1");
        due.is("6: letters of an earlier tape are gone", Due.valley(again, "p1"), -22);
        due.is("6: letters of an earlier tape are gone", Due.valley(again, "p6"), -22);
        due.is("6: a number at the end of a full tape", Due.valley(again, " ".repeat(58) + "p6"), -80);
        due.is("6: a drift at the end of a full tape", Due.valley(again, " ".repeat(56) + "p6+1"), 1);
        due.is("6: miles at the end of a full tape", Due.valley(again, " ".repeat(54) + "p6+1@5"), 1);
        Due.valley(again, "p1+123");
        due.is("6: letters of an earlier tape are gone", Due.valley(again, "p1+"), -23);
        NineNoons x = Due.of("p1+1@5,p2+2");
        x.seed(77);
        x.days(3);
        x.sheet(0, 1, 5);
        x.image();
        due.is("6: fault", Due.valley(x, "p1+1,p"), -26);
        due.is("6: all else stays: villages", x.count(0), 2);
        due.is("6: all else stays: day", x.count(1), 3);
        due.is("6: all else stays: undone", x.count(6), 3);
        due.is("6: all else stays: minute", x.of(0, 1), 4);
        due.is("6: in place of all", Due.valley(x, "h7-1"), 1);
        due.is("6: villages", x.count(0), 1);
        due.is("6: day 0", x.count(1), 0);
        due.is("6: nothing to be undone", x.undo(), NineNoons.NONE);
        due.is("6: miles else 0", x.of(0, 3), 0);
        due.is("6: the draw stays", x.seed(0), 77);
        due.is("6: sheets stay", x.drop(0), 5);
        due.is("6: the image stays", x.restore(), 1);
        due.is("6: as it was", x.count(0), 2);
    }

    private static void promise7() {
        NineNoons x = Due.of("p5+1@3,p25+1@40,p5+1,p59+1@1,p25+1,p6+1");
        x.days(2);
        x.set(0, 6);
        long[] want = {6, 2, 0, 18, 6 + 27 + 7 + 1 + 27 + 8, 44, 3};
        for (int what = 0; what < 7; what++) {
            due.is("7: count(" + what + ")", x.count(what), want[what]);
        }
        due.is("7: -1", x.count(-1), NineNoons.BAD);
        due.is("7: 7", x.count(7), NineNoons.BAD);
        due.is("7: two at 30", Due.of("p0+0,p30+0").count(2), 30);
        due.is("7: round the hour", Due.of("p0+0,p20+0,p58+0").count(2), 2);
        due.is("7: one", Due.of("p0+0").count(2), 30);
        for (int n = 0; n < 9; n++) {
            x.days(1);
        }
        due.is("7: 8 are known", x.count(6), 8);
    }
}
