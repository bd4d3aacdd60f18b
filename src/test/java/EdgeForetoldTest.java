/** Part 2 of the document and promises 15 to 26: a test for each sentence that names an edge. */
public final class EdgeForetoldTest {
    private static final Due due = new Due();
    private static final Edge edge = new Edge(due);
    private static final int BAD = NineNoons.BAD;
    private static final int NONE = NineNoons.NONE;
    private static final long ALL = (1L << 60) - 1;

    public static void main(String[] args) {
        aheadTakes();
        aheadIsAsDaysWouldBe();
        aheadAboveTheLastDay();
        nearTakes();
        nearOfNotTwo();
        meetTakes();
        meetWhen();
        togetherTakes();
        togetherWhen();
        togetherWhich();
        fixTakes();
        fixByTwoAtMost();
        fixFewestMinutes();
        fixTheFirst();
        fixNone();
        fixOfNotTwo();
        fixWhateverWasAskedAhead();
        freeTakes();
        freeMinutes();
        freeNone();
        freeOfEmpty();
        hearTakes();
        hearTheKth();
        hearAsHeStartsOrComes();
        hearWaits();
        hearWalks();
        hearOrders();
        hearMinutesAsTheyAreNow();
        againEven();
        againLast();
        againOfEmpty();
        worstTakes();
        worstIsLast();
        worstTheFirst();
        worstOfNotTwo();
        fogTakes();
        fogByNoneAndAll();
        fogLowestTerms();
        fogRoundTheHour();
        fogOfNone();
        imageKeeps();
        restoreNone();
        restoreAll();
        nothingIsChanged();
        due.end();
    }

    // ---- promises 15 and 16

    private static void aheadTakes() {
        edge.numbers("15: n DAYS (0 .. 60)", 0, 60, Scene.BUSY, (x, n) -> x.ahead(0, n));
        edge.numbers("15: VILLAGE", 0, 3, Scene.BUSY, (x, village) -> x.ahead(village, 60));
        edge.numbers("15: VILLAGE of 6", 0, 5, Scene.FULL, (x, village) -> x.ahead(village, 0));
    }

    private static void aheadIsAsDaysWouldBe() {
        for (Scene scene : new Scene[] {Scene.BUSY, Scene.FULL}) {
            for (int n = 0; n <= 60; n++) {
                NineNoons x = scene.make();
                NineNoons then = scene.make();
                Due.passDays(then, n);
                for (int village = 0; village < then.count(0); village++) {
                    due.is("15: behind n DAYS, " + n, x.ahead(village, n), then.of(village, 1));
                }
                due.is("16: behind n DAYS, " + n, x.near(n), then.count(2));
            }
        }
        due.is("15: behind 0 DAYS: now", Due.of("p59+9").ahead(0, 0), 59);
        due.is("15: behind 1 DAY: round the hour", Due.of("p59+9").ahead(0, 1), 8);
        due.is("15: behind 60 DAYS", Due.of("p59-1").ahead(0, 60), 59);
    }

    private static void aheadAboveTheLastDay() {
        NineNoons x = Scene.LAST.make();
        int plain = x.of(0, 1);
        int foggy = x.of(1, 1);
        due.is("15: foretold above DAY 9999", x.ahead(0, 60), plain);
        due.is("15: foretold above DAY 9999", x.ahead(0, 1), (plain + 1) % 60);
        due.is("15: DAY 9999 is odd, so FOGGY the other way", x.ahead(1, 1), (foggy + 56) % 60);
        due.is("15: and back", x.ahead(1, 2), foggy);
        due.is("16: foretold above DAY 9999", x.near(60), x.count(2));
    }

    private static void nearTakes() {
        edge.numbers("16: n DAYS (0 .. 60)", 0, 60, Scene.BUSY, (x, n) -> x.near(n));
        edge.numbers("16: n DAYS (0 .. 60)", 0, 60, Scene.EMPTY, (x, n) -> x.near(n));
    }

    private static void nearOfNotTwo() {
        for (int n : new int[] {0, 1, 60}) {
            due.is("16: 30, if there are not two: none", new NineNoons().near(n), 30);
            due.is("16: 30, if there are not two: one", Due.of("p5+7").near(n), 30);
            due.is("16: the least GAP of two", Due.of("p5+7,p4+7").near(n), 1);
        }
        due.is("16: 30 of two", Due.of("p0+3,p0-3").near(5), 30);
        due.is("16: the least GAP of any two", Due.of("p0+0,p20+0,p40+0,p50-2").near(4), 2);
    }

    // ---- promises 17 and 18

    private static void meetTakes() {
        edge.numbers("17: VILLAGE", 0, 3, Scene.BUSY, (x, village) -> x.meet(village, village == 0 ? 1 : 2));
        edge.numbers("17: other", 0, 3, Scene.BUSY, (x, other) -> x.meet(other == 0 ? 1 : 2, other));
        for (int village = 0; village < 4; village++) {
            int one = village;
            edge.refused("17: BAD: alike numbers, too", BAD, Scene.BUSY, x -> x.meet(one, one));
        }
    }

    private static void meetWhen() {
        due.is("17: the first of 0 to 60 DAYS: 0", Due.of("p7+1,p7+2").meet(0, 1), 0);
        due.is("17: the first of 0 to 60 DAYS: 1", Due.of("p7+1,p8+0").meet(0, 1), 1);
        due.is("17: the first of 0 to 60 DAYS: 59", Due.of("p0+1,p59+0").meet(0, 1), 59);
        due.is("17: the first of 0 to 60 DAYS: 60", Due.of("h58+5,p53+4@25,h9+9").meet(0, 1), 60);
        due.is("17: the first of 0 to 60 DAYS: 60, of the other", Due.of("h58+5,p53+4@25,h9+9").meet(1, 0), 60);
        String[] late = {"f54+6,h9-8@11,s0-2", "s41+1@0,c0-5,p50-6,c38-5"};
        for (String text : late) {
            NineNoons x = Due.of(text);
            due.is("17: none: it would be 61", x.meet(0, 1), NONE);
            x.days(1);
            due.is("17: 60 a DAY later", x.meet(0, 1), 60);
        }
        due.is("17: none", Due.of("p0+1,p1+1").meet(0, 1), NONE);
        due.is("17: of two, whoever else does", Due.of("p0+1,p10+0,p5+0").meet(0, 1), 10);
    }

    private static void togetherTakes() {
        edge.numbers("18: what", 0, 1, Scene.BUSY, (x, what) -> x.together(what));
        edge.numbers("18: what", 0, 1, Scene.EMPTY, (x, what) -> x.together(what));
        due.is("18: NONE of no VILLAGE", new NineNoons().together(0), NONE);
        due.is("18: 0: never, of no VILLAGE", new NineNoons().together(1), 0);
        due.is("18: NONE of one VILLAGE", Due.of("p0+1").together(0), NONE);
        due.is("18: 0: never, of one VILLAGE", Due.of("p0+1").together(1), 0);
    }

    private static void togetherWhen() {
        due.is("18: the first of 0 to 60 DAYS: 0", Due.of("p7+1,p7+2").together(0), 0);
        due.is("18: the first of 0 to 60 DAYS: 1", Due.of("p7+1,p8+0").together(0), 1);
        due.is("18: the first of 0 to 60 DAYS: 60", Due.of("p53-2,h45-1@3,s50+1").together(0), 60);
        due.isTrue("18: which, behind 60", Integer.bitCount(Due.of("p53-2,h45-1@3,s50+1").together(1)) == 2);
        for (String text : new String[] {"s17+8,f47-6,c52+1@21", "h14-4,p3-7@21,p5+9,p10+9"}) {
            NineNoons x = Due.of(text);
            due.is("18: NONE: it would be 61", x.together(0), NONE);
            due.is("18: 0: never", x.together(1), 0);
            x.days(1);
            due.is("18: 60 a DAY later", x.together(0), 60);
            int which = x.together(1);
            Due.passDays(x, 60);
            due.is("18: which, behind 60", which, x.count(3));
        }
        due.is("18: NONE", Due.of("p0+1,p1+1").together(0), NONE);
    }

    private static void togetherWhich() {
        due.is("18: which do so with some other one: two", Due.of("p0+1,p2+0,p5+0").together(1), 3);
        due.is("18: which: three at one MINUTE", Due.of("p0+1,p2+0,p4-1,p30+0").together(1), 7);
        due.is("18: which: two and two", Due.of("p0+1,p2+0,p30+0,p28+1,p50+0").together(1), 15);
        due.is("18: which: all six", Due.of("p7+0,p7+0,p7+0,p7+0,p7+0,p7+0").together(1), 63);
        due.is("18: which: the first and the last", Due.of("p7+0,p8+0,p9+0,p10+0,p11+0,p7+0").together(1), 33);
        due.is("18: which: then, not now", Due.of("p0+1,p9+1,p3+0").together(1), 5);
        due.is("18: which: round the hour", Due.of("p58+2,p1-1,p30+0").together(1), 3);
    }

    // ---- promise 19

    /** Due shifts, or none of them: NONE. */
    private static void fixed(String sentence, String text, int g, int... want) {
        NineNoons x = Due.of(text);
        int total = 0;
        for (int shift : want) {
            total += Math.abs(shift);
        }
        String call = "19: " + sentence + ": " + text + " by " + g;
        due.is(call, x.fix(g, -1), want.length == 0 ? NONE : total);
        for (int village = 0; village < x.count(0); village++) {
            due.is(call + " of " + village, x.fix(g, village), want.length == 0 ? NONE : want[village] + 2);
        }
    }

    private static void fixTakes() {
        edge.numbers("19: a GAP g (1 .. 12)", 1, 12, Scene.BUSY, (x, g) -> x.fix(g, -1));
        edge.numbers("19: a GAP g (1 .. 12)", 1, 12, Scene.EMPTY, (x, g) -> x.fix(g, -1));
        edge.numbers("19: BAD: no such one, below -1, too", -1, 3, Scene.BUSY, (x, village) -> x.fix(1, village));
        edge.numbers("19: BAD: no such one, of 6", -1, 5, Scene.FULL, (x, village) -> x.fix(1, village));
        edge.numbers("19: BAD: no such one, of none", -1, -1, Scene.EMPTY, (x, village) -> x.fix(1, village));
        edge.refused("19: BAD, though there is NONE", BAD, Scene.FULL, x -> x.fix(12, 6));
        edge.refused("19: BAD, though there is NONE", BAD, Scene.FULL, x -> x.fix(12, -2));
    }

    private static void fixByTwoAtMost() {
        for (int minute = 0; minute < 60; minute++) {
            String text = "p" + minute + "+1,p" + (minute + 2) % 60 + "+1";
            fixed("-2 .. 2 each, round the hour", text, 2, 0, 0);
            fixed("-2 .. 2 each, round the hour", text, 3, -1, 0);
            fixed("-2 .. 2 each, round the hour", text, 4, -2, 0);
            fixed("-2 .. 2 each, round the hour", text, 5, -2, 1);
            fixed("-2 .. 2 each, round the hour", text, 6, -2, 2);
            fixed("-2 .. 2 each: more can't be", text, 7);
        }
        fixed("-2 .. 2 each: twelve minutes in all", "p0+0,p2+0,p20+0,p22+0,p40+0,p42+0", 6, -2, 2, -2, 2, -2, 2);
        fixed("-2 .. 2 each: later for the first", "p2+0,p0+0", 6, 2, -2);
    }

    private static void fixFewestMinutes() {
        fixed("fewest minutes in all, not the first", "p10+0,p20+0,p31+0", 11, -1, 0, 0);
        fixed("fewest minutes: one later, though others earlier would do", "p5+0,p6+0,p7+0,p9+0", 2, -2, -1, 0, 0);
        fixed("fewest minutes: the last one later", "p0+0,p12+0,p24+0,p36+0,p47+0", 12, 0, 0, 0, 0, 1);
        fixed("fewest minutes: the first one earlier", "p1+0,p12+0,p24+0,p36+0,p48+0", 12, -1, 0, 0, 0, 0);
        fixed("fewest minutes: it is so", "p0+0,p12+0,p24+0,p36+0,p48+0", 12, 0, 0, 0, 0, 0);
        fixed("GAP of each two is g or more: just g", "p0+0,p10+0,p20+0,p30+0,p40+0,p50+0", 10, 0, 0, 0, 0, 0, 0);
        fixed("GAP of each two is g or more: six by 11 can't be", "p0+0,p10+0,p20+0,p30+0,p40+0,p50+0", 11);
    }

    private static void fixTheFirst() {
        fixed("of like ones the first", "p5+0,p5+0", 1, -1, 0);
        fixed("of like ones the first", "p5+0,p5+0", 2, -2, 0);
        fixed("of like ones the first", "p5+0,p5+0", 3, -2, 1);
        fixed("of like ones the first", "p5+0,p5+0", 4, -2, 2);
        fixed("of like ones the first", "p5+0,p5+0,p5+0", 1, -1, 0, 1);
        fixed("of like ones the first", "p5+0,p5+0,p5+0,p5+0", 1, -2, -1, 0, 1);
        fixed("of like ones the first", "p5+0,p5+0,p5+0,p5+0,p5+0", 1, -2, -1, 0, 1, 2);
        fixed("of like ones the first: VILLAGE 0, 1, ..", "p30+0,p5+0,p5+0", 1, 0, -1, 0);
        fixed("of like ones the first: VILLAGE 0, 1, ..", "p5+0,p30+0,p5+0", 1, -1, 0, 0);
        fixed("of like ones the first: VILLAGE 1 earlier, as 0 can't be", "p0+0,p30+0,p31+0", 2, 0, -1, 0);
        fixed("of like ones the first: 0 earlier is no help", "p6+0,p5+0", 3, 0, -2);
        fixed("of like ones the first: round the hour", "p59+0,p0+0", 3, -2, 0);
        fixed("of like ones the first: round the hour", "p0+0,p59+0", 3, 0, -2);
    }

    private static void fixNone() {
        fixed("none: by none it is", "p5+0,p5+0", 5);
        fixed("none: by none it is", "p5+0,p5+0,p5+0", 3);
        fixed("none: by none it is: six at one MINUTE", "p5+0,p5+0,p5+0,p5+0,p5+0,p5+0", 1);
        edge.refused("19: NONE", NONE, Scene.FULL, x -> x.fix(12, -1));
        edge.refused("19: NONE", NONE, Scene.FULL, x -> x.fix(12, 5));
    }

    private static void fixOfNotTwo() {
        for (int g : new int[] {1, 12}) {
            due.is("19: of no VILLAGE", new NineNoons().fix(g, -1), 0);
            fixed("of one VILLAGE", "p59+9", g, 0);
        }
    }

    private static void fixWhateverWasAskedAhead() {
        NineNoons x = Due.of("p10+0,p11+0");
        for (int round = 0; round < 2; round++) {
            due.is("19: whatever was asked ahead: apart now", x.fix(1, -1), 0);
            due.is("19: whatever was asked ahead: by all there is", x.fix(5, -1), 4);
            due.is("19: whatever was asked ahead: 1 later", x.fix(5, 1), 4);
            due.is("19: whatever was asked ahead: none", x.fix(6, 1), NONE);
            due.is("19: whatever was asked ahead: none", x.fix(6, -1), NONE);
            due.is("19: whatever was asked ahead: by 1", x.fix(2, -1), 1);
            due.is("19: whatever was asked ahead: 0 earlier", x.fix(2, 0), 1);
            due.is("19: whatever was asked ahead: 1 by none", x.fix(2, 1), 2);
        }
    }

    // ---- promise 20

    private static void free(String sentence, String text, int g, long set) {
        NineNoons x = text.isEmpty() ? new NineNoons() : Due.of(text);
        String call = "20: " + sentence + ": " + text + " by " + g;
        due.is(call + ", the set", x.free(g, 0), set);
        due.is(call + ", how many", x.free(g, 1), Long.bitCount(set));
        due.is(call + ", the least one", x.free(g, 2), set == 0 ? NONE : Long.numberOfTrailingZeros(set));
    }

    private static void freeTakes() {
        edge.numbers("20: a GAP g (1 .. 30)", 1, 30, Scene.BUSY, (x, g) -> x.free(g, 0));
        edge.numbers("20: a GAP g (1 .. 30)", 1, 30, Scene.BUSY, (x, g) -> x.free(g, 2));
        edge.numbers("20: a GAP g (1 .. 30)", 1, 30, Scene.EMPTY, (x, g) -> x.free(g, 1));
        edge.numbers("20: what", 0, 2, Scene.BUSY, (x, what) -> x.free(1, what));
        edge.numbers("20: what", 0, 2, Scene.EMPTY, (x, what) -> x.free(30, what));
    }

    private static void freeMinutes() {
        for (int minute = 0; minute < 60; minute++) {
            String text = "p" + minute + "+5";
            free("GAP is g or more", text, 1, ALL - (1L << minute));
            free("GAP is g or more, round the hour", text, 2,
                ALL - (1L << minute) - (1L << (minute + 1) % 60) - (1L << (minute + 59) % 60));
            free("GAP is g or more: 30 is across", text, 30, 1L << (minute + 30) % 60);
            free("GAP is g or more: 29", text, 29,
                1L << (minute + 29) % 60 | 1L << (minute + 30) % 60 | 1L << (minute + 31) % 60);
        }
        free("bit 0", "p30+0", 30, 1);
        free("bit 59", "p29+0", 30, 1L << 59);
        free("GAP of it and each", "p0+0,p20+0", 10, 1L << 10 | betweenMinutes(30, 50));
    }

    private static long betweenMinutes(int least, int most) {
        long set = 0;
        for (int minute = least; minute <= most; minute++) {
            set |= 1L << minute;
        }
        return set;
    }

    private static void freeNone() {
        free("none", "p0+0,p30+0", 16, 0);
        free("just two", "p0+0,p30+0", 15, 1L << 15 | 1L << 45);
        free("none of six", "p0+0,p10+0,p20+0,p30+0,p40+0,p50+0", 6, 0);
        free("just two", "p0+0,p1+0", 29, 1L << 30 | 1L << 31);
        free("none", "p0+0,p1+0", 30, 0);
        due.is("20: NONE of the least one alone: how many", Due.of("p0+0,p30+0").free(30, 1), 0);
    }

    private static void freeOfEmpty() {
        free("of no VILLAGE all", "", 1, ALL);
        free("of no VILLAGE all", "", 30, ALL);
    }

    // ---- promise 21

    private static void hearTakes() {
        edge.numbers("21: VILLAGE", 0, 3, Scene.BUSY, (x, village) -> x.hear(village, 0, 1, -1));
        edge.numbers("21: VILLAGE of 6", 0, 5, Scene.FULL, (x, village) -> x.hear(village, 0, 1, -1));
        edge.numbers("21: a MINUTE (0 .. 59)", 0, 59, Scene.BUSY, (x, minute) -> x.hear(0, minute, 1, -1));
        edge.numbers("21: w minutes (1 .. 9)", 1, 9, Scene.BUSY, (x, w) -> x.hear(0, 0, w, 0));
        edge.numbers("21: BAD: k below -1, too", -1, Integer.MAX_VALUE, Scene.BUSY, (x, k) -> x.hear(0, 0, 1, k));
        edge.refused("21: BAD ahead of NONE: VILLAGE", BAD, Scene.BUSY, x -> x.hear(4, 0, 1, 4));
        edge.refused("21: BAD ahead of NONE: MINUTE", BAD, Scene.BUSY, x -> x.hear(0, 60, 1, 4));
        edge.refused("21: BAD ahead of NONE: w", BAD, Scene.BUSY, x -> x.hear(0, 0, 10, 4));
    }

    private static void hearTheKth() {
        for (int villages = 1; villages <= 6; villages++) {
            NineNoons x = new NineNoons();
            for (int village = 0; village < villages; village++) {
                x.village(0, 50 - village, 0);
            }
            for (int k = 0; k < villages; k++) {
                due.is("21: the k-th of " + villages, x.hear(0, 0, 9, k), villages - 1 - k);
            }
            due.is("21: NONE: not so many", x.hear(0, 0, 9, villages), NONE);
            due.is("21: NONE: not so many", x.hear(0, 0, 9, Integer.MAX_VALUE), NONE);
            due.is("21: in how many minutes", x.hear(0, 0, 9, -1), 50);
        }
        edge.refused("21: NONE: not so many", NONE, Scene.BUSY, x -> x.hear(0, 0, 1, 4));
        edge.refused("21: NONE: not so many", NONE, Scene.FULL, x -> x.hear(0, 0, 1, 6));
    }

    private static void hearAsHeStartsOrComes() {
        for (int minute = 0; minute < 60; minute++) {
            String one = "p" + minute + "+0@20";
            due.is("21: as he starts", Due.of(one).hear(0, minute, 1, -1), 0);
            due.is("21: as he comes", Due.of(one + ",p" + (minute + 7) % 60 + "+0@27").hear(0, minute, 1, -1), 7);
            due.is("21: as he comes, the other way", Due.of(one + ",p" + (minute + 7) % 60 + "+0@13").hear(0, minute, 1, -1), 7);
            due.is("21: a minute late", Due.of(one + ",p" + (minute + 6) % 60 + "+0@27").hear(0, minute, 1, -1), 66);
            due.is("21: a minute late to start", Due.of(one).hear(0, (minute + 1) % 60, 1, -1), 59);
        }
        // On his way from 0 to 2 he comes by 1 just as it rings.
        NineNoons by = Due.of("p0+0@0,p10+0@5,p20+0@10");
        due.is("21: as he comes by", by.hear(0, 0, 2, -1), 20);
    }

    private static void hearWaits() {
        due.is("21: waiting: 59 minutes", Due.of("p59+0").hear(0, 0, 9, -1), 59);
        due.is("21: waiting: 1 minute round the hour", Due.of("p0+0").hear(0, 59, 9, -1), 1);
        due.is("21: all at one MINUTE and place", Due.of("p5+0,p5+0,p5+0,p5+0,p5+0,p5+0").hear(3, 5, 9, -1), 0);
        due.is("21: one behind the other", Due.of("p5+0,p4+0,p3+0,p2+0,p1+0,p0+0").hear(3, 0, 9, -1), 5);
        due.is("21: two in an hour at most, if one rings as he leaves", Due.of("p30+0,p30+0@1").hear(0, 30, 1, -1), 60);
    }

    private static void hearWalks() {
        for (int w = 1; w <= 9; w++) {
            int minutes = 40 * w;
            NineNoons x = Due.of("p0+0@0,p" + minutes % 60 + "+0@40");
            due.is("21: 1 mile in w minutes: " + w, x.hear(0, 0, w, -1), minutes);
            NineNoons late = Due.of("p0+0@0,p" + (minutes + 59) % 60 + "+0@40");
            due.is("21: 1 mile in w minutes, and an hour less one: " + w, late.hear(0, 0, w, -1), minutes + 59);
            NineNoons back = Due.of("p" + minutes % 60 + "+0@0,p0+0@40");
            due.is("21: from the VILLAGE told: " + w, back.hear(1, 0, w, -1), minutes);
        }
        // 2 as he comes at 10; 0, back again, at 30; 1, there again, at 60. Any other order is later.
        order("there, back, and there again", "p30+0@10,p0+0@0,p10+0@0", new int[] {0, 0, 1}, 60, 2, 0, 1);
    }

    private static void order(String sentence, String text, int[] from, int minutes, int... want) {
        NineNoons x = Due.of(text);
        String call = "21: " + sentence + ": " + text;
        due.is(call, x.hear(from[0], from[1], from[2], -1), minutes);
        for (int k = 0; k < want.length; k++) {
            due.is(call + ", the " + k + "-th", x.hear(from[0], from[1], from[2], k), want[k]);
        }
    }

    private static void hearOrders() {
        order("of like ones the first", "p10+0,p10+0,p10+0,p10+0,p10+0,p10+0", new int[] {5, 0, 1}, 10, 0, 1, 2, 3, 4, 5);
        order("the sooner one, not the first", "p30+0,p20+0,p10+0", new int[] {0, 0, 1}, 30, 2, 1, 0);
        order("of like ones the first: either way 90", "p0+0@0,p0+0@30", new int[] {0, 30, 1}, 90, 0, 1);
        order("of like ones the first: either way 90", "p0+0@30,p0+0@0", new int[] {1, 30, 1}, 90, 0, 1);
        order("another one is heard ahead of that he starts from", "p4+0@0,p8+0@4", new int[] {1, 0, 1}, 8, 0, 1);
        order("the last is what counts: 1 ahead of 0 or behind it", "p5+0,p5+0,p6+0", new int[] {2, 0, 1}, 6, 0, 1, 2);
        order("1 as he starts, then 0, then far away", "p1+0,p0+0,p59+0@40", new int[] {0, 0, 9}, 419, 1, 0, 2);
    }

    private static void hearMinutesAsTheyAreNow() {
        due.is("21: MINUTES as they are now", Due.of("p10+9,s20-9@10,c40+9").hear(0, 0, 1, -1), 40);
        NineNoons x = Due.of("p10+0,p30+0@40");
        due.is("21: 1 as he comes, 0 as he comes back", x.hear(0, 50, 1, -1), 80);
        due.is("21: whatever was asked ahead: a long way", x.hear(0, 10, 9, -1), 380);
        due.is("21: whatever was asked ahead: 0 ahead of 1", x.hear(0, 10, 9, 0), 0);
        due.is("21: whatever was asked ahead: 1 ahead of 0", x.hear(1, 30, 1, 0), 1);
        due.is("21: whatever was asked ahead: back to 0", x.hear(1, 30, 1, -1), 40);
    }

    // ---- promise 22

    private static void againEven() {
        due.is("22: 1 DAY is odd", Due.of("p5+0").again(), 2);
        due.is("22: 15 DAYS are odd", Due.of("p5+4").again(), 30);
        due.is("22: 15 DAYS are odd", Due.of("p5-8").again(), 30);
        due.is("22: 10 DAYS are even", Due.of("p5+6").again(), 10);
        due.is("22: FOGGY is there again", Due.of("f5+9").again(), 2);
        NineNoons odd = Due.of("p5+6");
        odd.days(1);
        due.is("22: DAYS gone by from now on", odd.again(), 10);
        NineNoons empty = new NineNoons();
        empty.days(1);
        due.is("22: DAYS gone by from now on", empty.again(), 2);
        NineNoons foggy = Due.of("f5+9,p0+6");
        foggy.days(3);
        due.is("22: FOGGY from an odd DAY on", foggy.again(), 10);
        due.is("22: all MINUTES", Due.of("p5+6,p5+4").again(), 30);
        due.is("22: all MINUTES, not one", Due.of("p5+6,p5+1,p3+0").again(), 60);
    }

    private static void againLast() {
        due.is("22: (1 .. 240): just 240", Due.of("h50-3,c51+9").again(), 240);
        for (String text : new String[] {"c55-1,f47-8,h43-4@9", "c32-1,f42-8,h30-4"}) {
            NineNoons x = Due.of(text);
            String now = Due.minutes(x);
            due.is("22: none: it would be 244", x.again(), NONE);
            Due.passDays(x, 244);
            due.isTrue("22: as now behind 244", Due.minutes(x).equals(now));
        }
        due.is("22: none", Due.of("h5+1,p10+0").again(), NONE);
    }

    private static void againOfEmpty() {
        due.is("22: of no VILLAGE", new NineNoons().again(), 2);
        due.is("22: above the last DAY", Scene.LAST.make().again(), 60);
        due.is("22: of six", Due.of("p0+6,p10+6,p20+6,p30+6,p40+6,p50+6").again(), 10);
    }

    // ---- promise 23

    private static void worst(String sentence, String text, int which, int when) {
        NineNoons x = text.isEmpty() ? new NineNoons() : Due.of(text);
        due.is("23: " + sentence + ": which of " + text, x.worst(0), which);
        due.is("23: " + sentence + ": when of " + text, x.worst(1), when);
    }

    private static void worstTakes() {
        edge.numbers("23: what", 0, 1, Scene.BUSY, (x, what) -> x.worst(what));
        edge.numbers("23: what, of none", 0, 1, Scene.EMPTY, (x, what) -> x.worst(what));
    }

    private static void worstIsLast() {
        worst("TOGETHER is last", "p0+2,p10+1,p40-1", 0, 15);
        worst("none is later than any", "p5+0,p6-1", 1, NONE);
        worst("TOGETHER then: 60", "c30+4,f49-9@15,c57-2@9", 1, 60);
        worst("TOGETHER then: 60", "h9+1@21,p58-2@14,p1-8", 2, 60);
        worst("none is later than 60", "p21-0,p25+9,c7-2@8", 1, NONE);
        due.is("23: as it is, it would be 60", Due.of("p21-0,p25+9,c7-2@8").together(0), 60);
        worst("the last VILLAGE", "p0+0,p10+0,p20+0,p30+0,p40+0,p50+1", 5, NONE);
    }

    private static void worstTheFirst() {
        worst("of like ones the first: all now", "p7+1,p7+2,p20+1", 0, 0);
        worst("of like ones the first: none of all", "p0+0,p1+0,p2+0", 0, NONE);
        worst("of like ones the first: 1 and 2 alike", "p40+0,p10+1,p20-1", 1, 10);
        worst("of like ones the first: 0 and 2 alike", "p10+1,p40+0,p20-1", 0, 10);
    }

    private static void worstOfNotTwo() {
        worst("there are none", "", NONE, NONE);
        worst("one alone", "p5+9", 0, NONE);
    }

    // ---- promise 24

    private static void fogged(String sentence, String text, int c, int above, int below) {
        NineNoons x = text.isEmpty() ? new NineNoons() : Due.of(text);
        due.is("24: " + sentence + ": above, " + text + " by " + c, x.fog(c, 0), above);
        due.is("24: " + sentence + ": below, " + text + " by " + c, x.fog(c, 1), below);
    }

    private static void fogTakes() {
        edge.numbers("24: c of 10 (0 .. 10)", 0, 10, Scene.BUSY, (x, c) -> x.fog(c, 0));
        edge.numbers("24: c of 10 (0 .. 10)", 0, 10, Scene.EMPTY, (x, c) -> x.fog(c, 1));
        edge.numbers("24: what", 0, 1, Scene.BUSY, (x, what) -> x.fog(5, what));
    }

    private static void fogByNoneAndAll() {
        for (int c : new int[] {0, 10}) {
            fogged("by none or all: apart", "p5+1,p6+1", c, 1, 1);
            fogged("by none or all: together", "p5+1,p5+1", c, 0, 1);
        }
    }

    private static void fogLowestTerms() {
        for (int c = 0; c <= 10; c++) {
            // Together, if the first is late and the other is not.
            int apart = 100 - c * (10 - c);
            int divisor = java.math.BigInteger.valueOf(apart).gcd(java.math.BigInteger.valueOf(100)).intValue();
            fogged("lowest terms", "p5+1,p6+1", c, apart / divisor, 100 / divisor);
            fogged("lowest terms", "p6+1,p5+1", c, apart / divisor, 100 / divisor);
        }
        // Six in a row are apart, if all behind a late one are late: 9^6 + 9^5 + .. + 1 of 10^6.
        fogged("six", "p0+0,p1+0,p2+0,p3+0,p4+0,p5+0", 1, 597871, 1000000);
        fogged("six at one MINUTE", "p5+0,p5+0,p5+0,p5+0,p5+0,p5+0", 5, 0, 1);
        fogged("six far apart", "p0+0,p10+0,p20+0,p30+0,p40+0,p50+0", 5, 1, 1);
    }

    private static void fogRoundTheHour() {
        fogged("1 minute later round the hour", "p59+1,p0+1", 5, 3, 4);
        fogged("2 minutes are never together", "p58+1,p0+1", 5, 1, 1);
        // Apart, if the first is not late and just one of the others is: 7 * (3 * 7 + 7 * 3) of 1000.
        fogged("later, not earlier", "p5+1,p6+1,p6+1", 3, 147, 500);
        fogged("later, not earlier, round the hour", "p59+1,p0+1,p0+1", 3, 147, 500);
    }

    private static void fogOfNone() {
        fogged("of no VILLAGE", "", 5, 1, 1);
        fogged("of one VILLAGE", "p59+9", 5, 1, 1);
    }

    // ---- promises 25 and 26

    private static void imageKeeps() {
        for (Scene scene : Scene.values()) {
            due.is("25: image: 1", scene.make().image(), 1);
            NineNoons x = scene.make();
            x.image();
            due.isTrue("25: image changes nothing else, of " + scene, Witness.told(x, 0).equals(scene.told(0)));
            NineNoons y = scene.make();
            y.image();
            due.isTrue("25: image changes no SHEETS, TAPE, of " + scene, Witness.told(y, 2).equals(scene.told(2)));
        }
        NineNoons twice = Due.of("p1+1");
        twice.image();
        twice.set(0, 2);
        twice.image();
        twice.set(0, 3);
        due.is("25: the later IMAGE", twice.restore(), 1);
        due.is("25: the later IMAGE", twice.of(0, 1), 2);
    }

    private static void restoreNone() {
        edge.refused("26: NONE: there is none", NONE, Scene.EMPTY, x -> x.restore());
        NineNoons x = Due.of("p1+1");
        x.days(2);
        due.is("26: NONE: there is none", x.restore(), NONE);
        due.is("26: nothing changed", x.of(0, 1), 3);
        due.is("26: nothing changed", x.count(6), 2);
        due.is("26: of an empty valley there is one", restoredEmpty().count(0), 0);
    }

    private static NineNoons restoredEmpty() {
        NineNoons x = new NineNoons();
        x.image();
        x.village(0, 5, 5);
        x.days(3);
        due.is("26: of an empty valley there is one", x.restore(), 1);
        return x;
    }

    private static void restoreAll() {
        for (Scene scene : Scene.values()) {
            NineNoons x = scene.make();
            x.image();
            x.seed(123);
            x.set(0, 0);
            x.move(0, 0);
            x.tune(0, 0);
            x.storm(1);
            x.undo();
            x.village(0, 0, 0);
            due.is("26: restore: 1", x.restore(), 1);
            due.isTrue("26: all is as it was then, of " + scene, Witness.told(x, 0).equals(scene.told(0)));
        }
        NineNoons other = Scene.TAPELESS.make();
        other.image();
        Due.valley(other, "p0+0,p0+0,p0+0,p0+0,p0+0,p0+0");
        other.storm(40);
        other.restore();
        due.isTrue("26: all is as it was then, ahead of a VALLEY", Witness.told(other, 0).equals(Scene.TAPELESS.told(0)));
        NineNoons twice = Scene.BUSY.make();
        twice.restore();
        twice.days(9);
        due.isTrue("26: once more", Witness.told(twice, 1).equals(Scene.BUSY.told(1)));
        NineNoons kept = Scene.BUSY.make();
        kept.restore();
        due.isTrue("26: but SHEETS, THE TAPE", Witness.told(kept, 2).equals(Scene.BUSY.told(2)));
    }

    private static void nothingIsChanged() {
        for (Scene scene : Scene.values()) {
            edge.changesNothing("15: foretold: ahead", scene, x -> x.ahead(0, 60));
            edge.changesNothing("16: foretold: near", scene, x -> x.near(60));
            edge.changesNothing("17: foretold: meet", scene, x -> x.meet(0, 1));
            edge.changesNothing("18: foretold: together", scene, x -> x.together(0) + x.together(1));
            edge.changesNothing("19: foretold: fix", scene, x -> x.fix(3, -1) + x.fix(12, 0));
            edge.changesNothing("20: foretold: free", scene, x -> x.free(3, 0) + x.free(3, 1) + x.free(3, 2));
            edge.changesNothing("21: foretold: hear", scene, x -> x.hear(0, 5, 2, -1) + x.hear(0, 5, 2, 1));
            edge.changesNothing("22: foretold: again", scene, x -> x.again());
            edge.changesNothing("23: foretold: worst", scene, x -> x.worst(0) + x.worst(1));
            edge.changesNothing("24: foretold: fog", scene, x -> x.fog(3, 0) + x.fog(3, 1));
        }
    }
}
