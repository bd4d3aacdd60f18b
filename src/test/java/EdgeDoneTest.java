/** Promises 8 to 14, and what part 3 says of UNDONE and of THE DRAW: a test for each sentence that names an edge. */
public final class EdgeDoneTest {
    private static final Due due = new Due();
    private static final Edge edge = new Edge(due);
    private static final int BAD = NineNoons.BAD;
    private static final int FULL = NineNoons.FULL;
    private static final int NOT = NineNoons.NOT;

    public static void main(String[] args) {
        daysTake();
        daysAreFull();
        daysUndoneEachByItself();
        daysTellTheLeastGap();
        setTakes();
        setIsSo();
        setChangesOneMinute();
        moveTakes();
        moveIsSo();
        moveChangesMilesOfOne();
        tuneTakes();
        tuneIsSo();
        tuneChangesOneDrift();
        stormTakes();
        stormIsFull();
        stormDraws();
        stormWithoutVillages();
        stormAheadOfTheDay();
        stormUndone();
        undoNone();
        undoEight();
        undoOfEachDeed();
        undoWhateverWasToldSince();
        undoLeavesOtherThings();
        undoNothingBehindAValley();
        seedTakes();
        due.end();
    }

    private static NineNoons atDay(int day) {
        NineNoons x = Due.of("p0+1,p20+1");
        Due.passDays(x, day);
        return x;
    }

    // ---- promise 8

    private static void daysTake() {
        edge.numbers("8: n DAYS (1 .. 40)", 1, 40, Scene.BUSY, (x, n) -> x.days(n));
        edge.numbers("8: n DAYS (1 .. 40)", 1, 40, Scene.EMPTY, (x, n) -> x.days(n));
        for (int n = 1; n <= 40; n++) {
            NineNoons x = Due.of("p0+1,p20+2");
            x.days(n);
            due.is("8: n DAYS: " + n, x.count(1), n);
            due.is("8: n DAYS: " + n, x.of(0, 1), n);
            due.is("8: n DAYS round the hour: " + n, x.of(1, 1), (20 + 2 * n) % 60);
        }
    }

    private static void daysAreFull() {
        for (int n : new int[] {1, 2, 39, 40}) {
            due.is("8: the DAY would be 9999: by " + n, atDay(9999 - n).days(n), 20);
            due.is("8: FULL: the DAY would be above 9999: by " + n, atDay(10000 - n).days(n), FULL);
            edge.refused("8: FULL: the DAY would be above 9999: by " + n, FULL, Scene.LAST, x -> x.days(n));
        }
        NineNoons x = atDay(9998);
        due.is("8: FULL", x.days(2), FULL);
        due.is("8: nothing changed", x.count(1), 9998);
        due.is("8: one DAY is left", x.days(1), 20);
        due.is("8: the last DAY", x.count(1), 9999);
        edge.refused("8: BAD ahead of FULL", BAD, Scene.LAST, y -> y.days(41));
        edge.refused("8: BAD ahead of FULL", BAD, Scene.LAST, y -> y.days(0));
    }

    private static void daysUndoneEachByItself() {
        for (int n = 1; n <= 12; n++) {
            NineNoons x = Due.of("p0+1");
            x.days(n);
            int known = Math.min(n, 8);
            due.is("8: each by itself may be UNDONE: " + n, x.count(6), known);
            for (int left = known - 1; left >= 0; left--) {
                due.is("8: each by itself may be UNDONE", x.undo(), left);
                due.is("8: the DAY as ahead of it", x.count(1), n - known + left);
                due.is("8: the MINUTE as ahead of it", x.of(0, 1), n - known + left);
            }
        }
    }

    private static void daysTellTheLeastGap() {
        due.is("8: the least GAP then (30): no VILLAGE", new NineNoons().days(1), 30);
        due.is("8: the least GAP then (30): one VILLAGE", Due.of("p0+9").days(40), 30);
        due.is("8: the least GAP then, not ahead", Due.of("p0+9,p0-9").days(1), 18);
        due.is("8: the least GAP then: 0", Due.of("p51+9,p9-9").days(1), 0);
        due.is("8: the least GAP then: 30", Due.of("p0+9,p48-9").days(1), 30);
        due.is("8: the least GAP then: of three", Due.of("p0+9,p40+0,p12-1").days(1), 2);
    }

    // ---- promises 9 to 11

    private static void setTakes() {
        edge.numbers("9: VILLAGE", 0, 3, Scene.BUSY, (x, village) -> x.set(village, 1));
        edge.numbers("9: VILLAGE of 6", 0, 5, Scene.FULL, (x, village) -> x.set(village, 1));
        edge.numbers("9: MINUTE", 0, 59, Scene.BUSY, (x, minute) -> x.set(3, minute));
        NineNoons x = Due.of("p30+1");
        due.is("9: to 0", x.set(0, 0), 30);
        due.is("9: to 59: the MINUTE it was", x.set(0, 59), 0);
        due.is("9: to 30: the MINUTE it was", x.set(0, 30), 59);
    }

    private static void setIsSo() {
        edge.refused("9: NOT: it is so", NOT, Scene.BUSY, x -> x.set(1, 50));
        edge.refused("9: NOT: it is so", NOT, Scene.LAST, x -> x.set(0, x.of(0, 1)));
        for (int minute : new int[] {0, 59}) {
            NineNoons x = Due.of("p" + minute + "+1,p7+7");
            due.is("9: NOT: it is so: " + minute, x.set(0, minute), NOT);
            due.is("9: another one may RING so", x.set(1, minute), 7);
        }
    }

    private static void setChangesOneMinute() {
        NineNoons x = Due.of("p5+1@3,h6-1@4,c7+2@5");
        x.days(1);
        x.set(1, 40);
        due.minutes("9: a VILLAGE RINGS at another MINUTE", x, "6 40 8");
        int[] want = {2, 40, 8, 4, 29, 0};
        for (int what = 0; what < 6; what++) {
            due.is("9: all else of it stays: " + what, x.of(1, what), want[what]);
        }
        due.is("9: the DAY stays", x.count(1), 1);
        due.is("9: may be UNDONE", x.count(6), 2);
    }

    private static void moveTakes() {
        edge.numbers("10: VILLAGE", 0, 3, Scene.BUSY, (x, village) -> x.move(village, 1));
        edge.numbers("10: VILLAGE of 6", 0, 5, Scene.FULL, (x, village) -> x.move(village, 1));
        edge.numbers("10: MILES", 0, 40, Scene.BUSY, (x, miles) -> x.move(0, miles));
        NineNoons x = Due.of("p30+1@20");
        due.is("10: to 0", x.move(0, 0), 20);
        due.is("10: to 40: MILES as they were", x.move(0, 40), 0);
        due.is("10: to 20: MILES as they were", x.move(0, 20), 40);
    }

    private static void moveIsSo() {
        edge.refused("10: NOT: they are so", NOT, Scene.BUSY, x -> x.move(2, 7));
        for (int miles : new int[] {0, 40}) {
            NineNoons x = Due.of("p5+1@" + miles + ",p7+7@9");
            due.is("10: NOT: they are so: " + miles, x.move(0, miles), NOT);
            due.is("10: another one may stand so", x.move(1, miles), 9);
        }
    }

    private static void moveChangesMilesOfOne() {
        NineNoons x = Due.of("p5+1@3,p6-1@4,p7+2@5");
        x.days(1);
        x.move(1, 40);
        int[] want = {3, 40, 5};
        for (int village = 0; village < 3; village++) {
            due.is("10: it stands at other MILES", x.of(village, 3), want[village]);
        }
        due.minutes("10: MINUTES stay", x, "6 5 9");
        due.is("10: DRIFT stays", x.of(1, 2), 8);
        due.is("10: the DAY stays", x.count(1), 1);
        due.is("10: may be UNDONE", x.count(6), 2);
    }

    private static void tuneTakes() {
        edge.numbers("11: VILLAGE", 0, 3, Scene.BUSY, (x, village) -> x.tune(village, 1));
        edge.numbers("11: VILLAGE of 6", 0, 5, Scene.FULL, (x, village) -> x.tune(village, 1));
        edge.numbers("11: DRIFT and 9: 0 .. 18", 0, 18, Scene.BUSY, (x, drift) -> x.tune(0, drift));
        NineNoons x = Due.of("p30+0");
        due.is("11: to -9", x.tune(0, 0), 9);
        due.is("11: -9", x.of(0, 4), 21);
        due.is("11: to 9: DRIFT it had, and 9", x.tune(0, 18), 0);
        due.is("11: 9", x.of(0, 4), 39);
        due.is("11: to 0: DRIFT it had, and 9", x.tune(0, 9), 18);
        due.is("11: 0", x.of(0, 4), 30);
    }

    private static void tuneIsSo() {
        edge.refused("11: NOT: it is so", NOT, Scene.BUSY, x -> x.tune(0, 12));
        due.is("11: NOT: it is so: -9", Due.of("p5-9").tune(0, 0), NOT);
        due.is("11: NOT: it is so: 9", Due.of("p5+9").tune(0, 18), NOT);
        due.is("11: NOT: it is so: 0", Due.of("p5-0").tune(0, 9), NOT);
        due.is("11: another one may DRIFT so", Due.of("p5-9,p5+9").tune(1, 0), 18);
    }

    private static void tuneChangesOneDrift() {
        NineNoons x = Due.of("p5+1@3,p6-1@4,p7+2@5");
        x.days(1);
        x.tune(1, 18);
        int[] want = {10, 18, 11};
        for (int village = 0; village < 3; village++) {
            due.is("11: its DRIFT is another", x.of(village, 2), want[village]);
        }
        due.minutes("11: MINUTES stay", x, "6 5 9");
        due.is("11: MILES stay", x.of(1, 3), 4);
        due.is("11: the DAY stays", x.count(1), 1);
        due.is("11: may be UNDONE", x.count(6), 2);
    }

    // ---- promise 12

    private static void stormTakes() {
        edge.numbers("12: a STORM of n DAYS (1 .. 40)", 1, 40, Scene.BUSY, (x, n) -> x.storm(n));
        edge.numbers("12: a STORM of n DAYS (1 .. 40)", 1, 40, Scene.EMPTY, (x, n) -> x.storm(n));
    }

    private static void stormIsFull() {
        for (int n : new int[] {1, 2, 39, 40}) {
            NineNoons x = atDay(9999 - n);
            due.isTrue("12: the DAY would be 9999: by " + n, x.storm(n) >= 0);
            due.is("12: the last DAY", x.count(1), 9999);
            due.is("12: FULL: likewise: by " + n, atDay(10000 - n).storm(n), FULL);
            edge.refused("12: FULL: likewise: by " + n, FULL, Scene.LAST, y -> y.storm(n));
        }
        edge.refused("12: BAD ahead of FULL", BAD, Scene.LAST, y -> y.storm(41));
        edge.refused("12: BAD ahead of FULL", BAD, Scene.LAST, y -> y.storm(0));
    }

    /** Each number of villages, from draws at both ends of 31 bits on. */
    private static void stormDraws() {
        for (int villages = 1; villages <= 6; villages++) {
            for (long seed : new long[] {0, 1, 2, 12345, 65535, 65536, 1L << 30, (1L << 31) - 2, (1L << 31) - 1}) {
                NineNoons x = new NineNoons();
                int[] minutes = new int[villages];
                for (int village = 0; village < villages; village++) {
                    minutes[village] = 59 - village;
                    x.village(0, minutes[village], village - 3);
                }
                x.seed((int) seed);
                long draw = seed;
                for (int day = 0; day < 40; day++) {
                    draw = Due.nextDraw(draw);
                    minutes[(int) (draw / 65536 % villages)] += (int) (draw / 128 % 5);
                    for (int village = 0; village < villages; village++) {
                        minutes[village] = (minutes[village] + village - 3 + 60) % 60;
                    }
                }
                x.storm(40);
                for (int village = 0; village < villages; village++) {
                    due.is("12: by seed " + seed + ", of " + villages, x.of(village, 1), minutes[village]);
                }
                due.is("12: the lowest 31 bits", x.seed(0), draw);
            }
        }
    }

    private static void stormWithoutVillages() {
        NineNoons x = new NineNoons();
        due.is("12: if there are VILLAGES: none: the least GAP (30)", x.storm(3), 30);
        due.is("12: THE DRAW goes on", x.seed(0), Due.nextDraw(Due.nextDraw(Due.nextDraw(1))));
        due.is("12: the DAY goes on", x.count(1), 3);
        due.is("12: each may be UNDONE", x.count(6), 3);
        due.is("12: one VILLAGE: the least GAP (30)", Due.of("p0+1").storm(1), 30);
        NineNoons two = Due.of("p0+0,p20+0");
        due.is("12: the least GAP then", two.storm(1), 16);
    }

    private static void stormAheadOfTheDay() {
        // The first draw is 1103527590: by 65536 it is 16838, by 128 it is 8621309.
        due.is("12: the first draw", Due.nextDraw(1), 1103527590L);
        NineNoons x = Due.of("h0+9,p7+0");
        x.storm(1);
        due.minutes("12: 4 minutes later ahead of the DAY, so that it hears 7", x, "4 7");
        NineNoons y = Due.of("h0+9,p3+0");
        y.storm(1);
        due.minutes("12: 4 minutes later is 1 behind 3", y, "4 3");
        NineNoons z = Due.of("h0+9,p8+0");
        z.storm(1);
        due.minutes("12: 4 minutes later: 8 is 4 away", z, "13 8");
        NineNoons round = Due.of("p56+0");
        round.storm(1);
        due.minutes("12: later round the hour", round, "0");
    }

    private static void stormUndone() {
        NineNoons x = Due.of("p0+1,p20-2@7");
        x.seed(5);
        String[] minutes = new String[13];
        long[] draws = new long[13];
        long draw = 5;
        for (int day = 0; day <= 12; day++) {
            minutes[day] = Due.minutes(x);
            draws[day] = draw;
            draw = Due.nextDraw(draw);
            x.storm(1);
        }
        NineNoons y = Due.of("p0+1,p20-2@7");
        y.seed(5);
        y.storm(12);
        for (int left = 7; left >= 0; left--) {
            due.is("12: each with its minutes one that may be UNDONE", y.undo(), left);
            due.minutes("12: its minutes, too", y, minutes[4 + left]);
            due.is("12: the DAY as ahead of it", y.count(1), 4 + left);
            due.is("12: THE DRAW as ahead of it", y.seed(0), draws[4 + left]);
        }
        due.is("12: older ones lost", y.undo(), NineNoons.NONE);
    }

    // ---- promise 13

    private static void undoNone() {
        edge.refused("13: NONE: none is known", NineNoons.NONE, Scene.EMPTY, x -> x.undo());
        NineNoons x = Due.of("p5+1");
        x.seed(9);
        due.is("13: seed is not UNDONE", x.undo(), NineNoons.NONE);
        due.is("13: nothing changed", x.seed(1), 9);
        x.days(1);
        due.is("13: how many more may be: none", x.undo(), 0);
        due.is("13: NONE then", x.undo(), NineNoons.NONE);
        due.is("13: nothing changed", x.of(0, 1), 5);
    }

    private static void undoEight() {
        for (int deeds = 7; deeds <= 10; deeds++) {
            NineNoons x = Due.of("p0+0");
            for (int deed = 1; deed <= deeds; deed++) {
                x.set(0, deed);
            }
            int known = Math.min(8, deeds);
            for (int left = known - 1; left >= 0; left--) {
                due.is("13: 8 are known: of " + deeds, x.undo(), left);
                due.is("13: the latest first", x.of(0, 1), deeds - known + left);
            }
            due.is("13: older ones lost", x.undo(), NineNoons.NONE);
            due.is("13: as behind those that are lost", x.of(0, 1), deeds - known);
            due.is("13: eight may be known again", x.set(0, 59), deeds - known);
            due.is("13: eight may be known again", x.undo(), 0);
        }
    }

    private static void undoOfEachDeed() {
        edge.becomes("13: a DAY is as it had not been", Scene.BUSY, x -> x.days(1) + x.undo(), Scene.BUSY);
        edge.becomes("13: a DAY of a STORM is as it had not been", Scene.BUSY, x -> x.storm(1) + x.undo(), Scene.BUSY);
        edge.becomes("13: SET is as it had not been", Scene.BUSY, x -> x.set(2, 0) + x.undo(), Scene.BUSY);
        edge.becomes("13: MOVED is as it had not been", Scene.BUSY, x -> x.move(2, 0) + x.undo(), Scene.BUSY);
        edge.becomes("13: TUNED is as it had not been", Scene.BUSY, x -> x.tune(2, 0) + x.undo(), Scene.BUSY);
        edge.becomes("13: four of them", Scene.BUSY,
            x -> x.days(1) + x.set(2, 0) + x.move(2, 0) + x.tune(2, 0) + x.undo() + x.undo() + x.undo() + x.undo(), Scene.BUSY);
        edge.becomes("13: up to eight at once", Scene.EMPTY, x -> {
            x.storm(8);
            for (int i = 0; i < 8; i++) {
                x.undo();
            }
            return 0;
        }, Scene.EMPTY);
    }

    private static void undoWhateverWasToldSince() {
        NineNoons x = Due.of("p0+1");
        x.seed(5);
        x.set(0, 9);
        x.seed(6);
        x.move(0, 9);
        x.seed(7);
        due.is("13: UNDONE", x.undo(), 1);
        due.is("13: THE DRAW as ahead of it, whatever was told since", x.seed(8), 6);
        due.is("13: UNDONE", x.undo(), 0);
        due.is("13: THE DRAW as ahead of it, whatever was told since", x.seed(8), 5);
    }

    private static void undoLeavesOtherThings() {
        NineNoons x = Due.of("p0+1");
        x.set(0, 9);
        x.image();
        x.sheet(1, 1, 7);
        x.type('p');
        x.undo();
        due.is("13: SHEETS stay", x.drop(1), 7);
        due.is("13: THE TAPE stays", x.type('5'), 2);
        due.is("13: the IMAGE stays", x.restore(), 1);
        due.is("13: the IMAGE stays", x.of(0, 1), 9);
    }

    private static void undoNothingBehindAValley() {
        NineNoons x = Scene.FULL.make();
        Due.valley(x, "");
        due.is("13: a VALLEY leaves nothing to be UNDONE", x.undo(), NineNoons.NONE);
        NineNoons y = Scene.BUSY.make();
        y.village(0, 0, 0);
        due.is("13: a new VILLAGE leaves nothing to be UNDONE", y.undo(), NineNoons.NONE);
        NineNoons z = Scene.BUSY.make();
        z.village(0, 0, 10);
        due.is("13: a refused VILLAGE leaves all", z.undo(), 3);
        NineNoons f = Scene.TAPELESS.make();
        f.valley();
        due.is("13: a FAULT leaves all", f.undo(), 3);
    }

    // ---- promise 14

    private static void seedTakes() {
        edge.numbers("14: BAD: below 0", 0, Integer.MAX_VALUE, Scene.BUSY, (x, v) -> x.seed(v));
        NineNoons x = new NineNoons();
        due.is("14: what it was: 1 at first", x.seed(0), 1);
        due.is("14: what it was: 0", x.seed(Integer.MAX_VALUE), 0);
        due.is("14: what it was: the greatest", x.seed(7), Integer.MAX_VALUE);
        due.is("14: alike is fine", x.seed(7), 7);
        due.is("14: nothing to be UNDONE by it", x.count(6), 0);
        edge.changesNothing("14: there and back", Scene.BUSY, y -> y.seed(y.seed(4)));
    }
}
