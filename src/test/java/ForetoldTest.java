/** Promises 15 to 26: ahead, near, meet, together, fix, free, hear, again, worst, fog, image, restore. */
public final class ForetoldTest {
    private static final Due due = new Due();

    public static void main(String[] args) {
        promise15();
        promise16();
        promise17();
        promise18();
        promise19();
        promise19Ties();
        promise20();
        promise21();
        promise21Orders();
        promise22();
        promise23();
        promise24();
        promise25And26();
        nothingIsChanged();
        due.end();
    }

    private static void promise15() {
        String text = "p5+4@3,s12-7@12,h40+5@20,f58-6@9,c30+2@31,p21-1";
        NineNoons x = Due.of(text);
        x.days(1);
        for (int n = 0; n <= 60; n++) {
            NineNoons y = Due.of(text);
            Due.passDays(y, 1 + n);
            for (int village = 0; village < 6; village++) {
                due.is("15: ahead(" + village + ", " + n + ")", x.ahead(village, n), y.of(village, 1));
            }
            due.is("16: near(" + n + ")", x.near(n), y.count(2));
        }
        due.is("15: n 61", x.ahead(0, 61), NineNoons.BAD);
        due.is("15: n -1", x.ahead(0, -1), NineNoons.BAD);
        due.is("15: village 6", x.ahead(6, 0), NineNoons.BAD);
        due.is("15: village -1", x.ahead(-1, 0), NineNoons.BAD);
        due.is("15: none there", new NineNoons().ahead(0, 0), NineNoons.BAD);
    }

    private static void promise16() {
        due.is("16: -1", new NineNoons().near(-1), NineNoons.BAD);
        due.is("16: 61", new NineNoons().near(61), NineNoons.BAD);
        due.is("16: none", new NineNoons().near(60), 30);
        due.is("16: one", Due.of("p5+1").near(1), 30);
        NineNoons x = Due.of("p0+1,p20-1,p30+0");
        due.is("16: now", x.near(0), 10);
        due.is("16: behind 9 days", x.near(9), 2);
        due.is("16: behind 10 days", x.near(10), 0);
    }

    private static void promise17() {
        NineNoons x = Due.of("p0+1,p59+0,p58+0,p0+0,p30+1");
        due.is("17: 0 days", x.meet(0, 3), 0);
        due.is("17: 59 days", x.meet(0, 1), 59);
        due.is("17: 58 days", x.meet(2, 0), 58);
        due.is("17: never", x.meet(0, 4), NineNoons.NONE);
        due.is("17: alike", x.meet(1, 1), NineNoons.BAD);
        due.is("17: no such one", x.meet(0, 5), NineNoons.BAD);
        due.is("17: no such one", x.meet(5, 0), NineNoons.BAD);
        due.is("17: -1", x.meet(-1, 0), NineNoons.BAD);
        due.is("17: -1", x.meet(0, -1), NineNoons.BAD);
        due.is("17: just 60 days", Due.of("p8+1,c24+4@25,c38-6@2").meet(0, 1), 60);
        due.is("17: stands near, but never there", Due.of("h0+1,s30+0").meet(0, 1), NineNoons.NONE);
    }

    private static void promise18() {
        due.is("18: just 60 days", Due.of("c54+3@25,f5+9@22,c15-2@26").together(0), 60);
        NineNoons x = Due.of("p0+1,p10+0,p20+1,p30+0,p50-2,p40+1");
        due.is("18: when", x.together(0), 10);
        due.is("18: which", x.together(1), 31);
        NineNoons now = Due.of("p7+1,p9+1,p9+0");
        due.is("18: now", now.together(0), 0);
        due.is("18: these", now.together(1), 6);
        NineNoons never = Due.of("p0+1,p10+1");
        due.is("18: never", never.together(0), NineNoons.NONE);
        due.is("18: none", never.together(1), 0);
        now.ahead(0, 4);
        due.is("18: now, whatever was foretold", now.together(0), 0);
        due.is("18: -1", x.together(-1), NineNoons.BAD);
        due.is("18: 2", x.together(2), NineNoons.BAD);
        due.is("18: no village", new NineNoons().together(0), NineNoons.NONE);
        due.is("18: no village", new NineNoons().together(1), 0);
        due.is("18: one village", Due.of("p0+1").together(0), NineNoons.NONE);
    }

    private static void fixed(String text, int g, int... want) {
        NineNoons x = Due.of(text);
        int total = 0;
        for (int shift : want) {
            total += Math.abs(shift);
        }
        due.is("19: " + text + " fix(" + g + ", -1)", x.fix(g, -1), want.length == 0 ? NineNoons.NONE : total);
        for (int village = 0; village < x.count(0); village++) {
            due.is("19: " + text + " fix(" + g + ", " + village + ")", x.fix(g, village),
                want.length == 0 ? NineNoons.NONE : want[village] + 2);
        }
    }

    private static void promise19() {
        NineNoons x = Due.of("p59+1,p1+0");
        due.is("19: g 0", x.fix(0, -1), NineNoons.BAD);
        due.is("19: g 13", x.fix(13, -1), NineNoons.BAD);
        due.is("19: village -2", x.fix(1, -2), NineNoons.BAD);
        due.is("19: no such one", x.fix(1, 2), NineNoons.BAD);
        due.is("19: none there", new NineNoons().fix(1, 0), NineNoons.BAD);
        due.is("19: none there, in all", new NineNoons().fix(12, -1), 0);
        due.is("19: bad ahead of none", x.fix(7, 2), NineNoons.BAD);
        fixed("p59+1,p1+0", 2, 0, 0);
        fixed("p59+1,p1+0", 3, -1, 0);
        fixed("p59+1,p1+0", 4, -2, 0);
        fixed("p59+1,p1+0", 5, -2, 1);
        fixed("p59+1,p1+0", 6, -2, 2);
        fixed("p59+1,p1+0", 7);
        fixed("p3+1", 12, 0);
    }

    /** Fewest minutes count first, then the first by villages from -2 on. */
    private static void promise19Ties() {
        fixed("p5+0,p5+0", 1, -1, 0);
        fixed("p5+0,p5+0", 4, -2, 2);
        fixed("p5+0,p5+0,p5+0", 1, -1, 0, 1);
        fixed("p5+0,p5+0,p5+0,p5+0,p5+0", 1, -2, -1, 0, 1, 2);
        fixed("p5+0,p5+0,p5+0,p5+0,p5+0,p5+0", 1);
        fixed("p5+0,p6+0", 3, -2, 0);
        fixed("p6+0,p5+0", 3, 0, -2);
        fixed("p10+0,p20+0,p31+0", 12, -2, 0, 1);
        fixed("p0+0,p30+0,p31+0", 2, 0, -1, 0);
        fixed("p0+0,p12+0,p24+0,p36+0,p47+0", 12, 0, 0, 0, 0, 1);
    }

    private static void free(String text, int g, long set) {
        NineNoons x = text.isEmpty() ? new NineNoons() : Due.of(text);
        due.is("20: " + text + " free(" + g + ", 0)", x.free(g, 0), set);
        due.is("20: " + text + " free(" + g + ", 1)", x.free(g, 1), Long.bitCount(set));
        due.is("20: " + text + " free(" + g + ", 2)", x.free(g, 2),
            set == 0 ? NineNoons.NONE : Long.numberOfTrailingZeros(set));
    }

    private static void promise20() {
        long all = (1L << 60) - 1;
        NineNoons x = Due.of("p0+1");
        due.is("20: g 0", x.free(0, 0), NineNoons.BAD);
        due.is("20: g 31", x.free(31, 0), NineNoons.BAD);
        due.is("20: what -1", x.free(1, -1), NineNoons.BAD);
        due.is("20: what 3", x.free(1, 3), NineNoons.BAD);
        free("", 30, all);
        free("p0+1", 1, all - 1);
        free("p0+1", 2, all - 3 - (1L << 59));
        free("p0+1", 30, 1L << 30);
        free("p0+1,p0+0", 30, 1L << 30);
        free("p0+1,p30+0", 15, 1L << 15 | 1L << 45);
        free("p0+1,p30+0", 16, 0);
        free("p10+0,p20+0,p30+0,p40+0,p50+0,p0+0", 5, 1L << 5 | 1L << 15 | 1L << 25 | 1L << 35 | 1L << 45 | 1L << 55);
        free("p10+0,p20+0,p30+0,p40+0,p50+0,p0+0", 6, 0);
    }

    private static void promise21() {
        NineNoons x = Due.of("p10+1@5,p20+1@15");
        due.is("21: no such one", x.hear(2, 0, 1, -1), NineNoons.BAD);
        due.is("21: village -1", x.hear(-1, 0, 1, -1), NineNoons.BAD);
        due.is("21: minute -1", x.hear(0, -1, 1, -1), NineNoons.BAD);
        due.is("21: minute 60", x.hear(0, 60, 1, -1), NineNoons.BAD);
        due.is("21: w 0", x.hear(0, 0, 0, -1), NineNoons.BAD);
        due.is("21: w 10", x.hear(0, 0, 10, -1), NineNoons.BAD);
        due.is("21: k -2", x.hear(0, 0, 1, -2), NineNoons.BAD);
        due.is("21: not so many", x.hear(0, 0, 1, 2), NineNoons.NONE);
        due.is("21: not so many", x.hear(0, 0, 1, Integer.MAX_VALUE), NineNoons.NONE);
        due.is("21: as he starts, and as he comes", x.hear(0, 10, 1, -1), 10);
        due.is("21: waiting", x.hear(0, 0, 1, -1), 20);
        due.is("21: just too late", x.hear(0, 11, 1, -1), 69);
        due.is("21: he comes late by slow feet", x.hear(0, 10, 2, -1), 70);
        due.is("21: an hour behind", Due.of("p10+0").hear(0, 11, 9, -1), 59);
        due.is("21: all at one place and minute", Due.of("p10+0,p10+0,p10+0").hear(1, 10, 9, -1), 0);
        due.is("21: feet over some hours", Due.of("p0+0,p0+0@40").hear(0, 0, 9, -1), 360);
    }

    private static void order(String text, int village, int minute, int w, int minutes, int... want) {
        NineNoons x = Due.of(text);
        String call = "21: " + text + " hear(" + village + ", " + minute + ", " + w + ", ";
        due.is(call + "-1)", x.hear(village, minute, w, -1), minutes);
        for (int k = 0; k < want.length; k++) {
            due.is(call + k + ")", x.hear(village, minute, w, k), want[k]);
        }
    }

    private static void promise21Orders() {
        order("p10+0,p10+0,p10+0", 2, 0, 1, 10, 0, 1, 2);
        order("p30+0,p20+0,p10+0", 0, 0, 1, 30, 2, 1, 0);
        order("p30+0@1,p20+0@2,p10+0@3", 0, 0, 1, 30, 2, 1, 0);
        // From 1 at minute 0: 0 is 4 miles away, comes at 4; back at 1 by 8. The other way he hears 1 at 8, then 0 at 64.
        order("p4+0@0,p8+0@4", 1, 0, 1, 8, 0, 1);
        // Both ways take 90 minutes: the first by numbers.
        order("p0+0@0,p0+0@30", 0, 30, 1, 90, 0, 1);
        order("p0+0@30,p0+0@0", 1, 30, 1, 90, 0, 1);
        // By slow feet the other one is later: 1 at 60, 0 at 120; or 0 at 120, 1 at 180.
        order("p0+0@30,p0+0@0", 1, 30, 2, 90, 1, 0);
    }

    private static void promise22() {
        due.is("22: without villages", new NineNoons().again(), 2);
        due.is("22: by 0", Due.of("p5+0").again(), 2);
        due.is("22: by 1", Due.of("p5+1").again(), 60);
        due.is("22: by 4: 15 days are odd", Due.of("p5+4").again(), 30);
        due.is("22: by 8: 15 days are odd", Due.of("p5-8").again(), 30);
        due.is("22: by 6", Due.of("p5+6").again(), 10);
        due.is("22: foggy, there and back", Due.of("f5+9").again(), 2);
        due.is("22: slow 9 is 4", Due.of("s5-9").again(), 30);
        due.is("22: of 7 and 6", Due.of("p5+7,p2+6").again(), 60);
        due.is("22: at first a way in, then never", Due.of("h5+1,p10+0").again(), NineNoons.NONE);
        due.is("22: a foggy one on an odd day", oddFoggy().again(), 2);
        due.is("22: just 240", Due.of("h21-2,p17+2").again(), 240);
        due.is("22: 300 would be too many", Due.of("p31+8@15,p59+5@30,c5-2").again(), NineNoons.NONE);
    }

    private static NineNoons oddFoggy() {
        NineNoons x = Due.of("f5+9,p20+6");
        x.days(1);
        x.tune(1, 9);
        return x;
    }

    private static void promise23() {
        due.is("23: there are none", new NineNoons().worst(0), NineNoons.NONE);
        due.is("23: there are none", new NineNoons().worst(1), NineNoons.NONE);
        due.is("23: what -1", new NineNoons().worst(-1), NineNoons.BAD);
        due.is("23: what 2", new NineNoons().worst(2), NineNoons.BAD);
        NineNoons one = Due.of("p5+1");
        due.is("23: one", one.worst(0), 0);
        due.is("23: never", one.worst(1), NineNoons.NONE);
        NineNoons second = Due.of("p5+0,p6-1");
        due.is("23: without the drift of 1 never", second.worst(0), 1);
        due.is("23: never", second.worst(1), NineNoons.NONE);
        NineNoons last = Due.of("p0+2,p10+1,p40-1");
        due.is("23: 0 without: 20; 1: 5; 2: 10 as it is", last.worst(0), 0);
        due.is("23: when", last.worst(1), 20 - 5);
        // Without the drift of 0, which is 0, together behind 60 days; without that of 1 never.
        NineNoons latest = Due.of("p21-0,p25+9,c7-2@8");
        due.is("23: as it is", latest.together(0), 60);
        due.is("23: never is later than 60", latest.worst(0), 1);
        due.is("23: never", latest.worst(1), NineNoons.NONE);
        NineNoons like = Due.of("p7+1,p7+2,p20+1");
        due.is("23: all now: the first", like.worst(0), 0);
        due.is("23: now", like.worst(1), 0);
        due.is("23: drifts stay", like.of(0, 2), 10);
    }

    private static void fogged(String text, int c, int above, int below) {
        NineNoons x = text.isEmpty() ? new NineNoons() : Due.of(text);
        due.is("24: " + text + " fog(" + c + ", 0)", x.fog(c, 0), above);
        due.is("24: " + text + " fog(" + c + ", 1)", x.fog(c, 1), below);
    }

    private static void promise24() {
        NineNoons x = Due.of("p5+1");
        due.is("24: c -1", x.fog(-1, 0), NineNoons.BAD);
        due.is("24: c 11", x.fog(11, 0), NineNoons.BAD);
        due.is("24: what -1", x.fog(1, -1), NineNoons.BAD);
        due.is("24: what 2", x.fog(1, 2), NineNoons.BAD);
        fogged("", 3, 1, 1);
        fogged("p5+1", 3, 1, 1);
        fogged("p5+1,p7+1", 5, 1, 1);
        // Together, if the first is late and the other is not: 3 * 7 of 100.
        fogged("p5+1,p6+1", 3, 79, 100);
        fogged("p6+1,p5+1", 4, 19, 25);
        fogged("p59+1,p0+1", 5, 3, 4);
        // Apart, if just one is late: 2 * 3 * 7 of 100.
        fogged("p5+1,p5+1", 3, 21, 50);
        fogged("p5+1,p5+1", 0, 0, 1);
        fogged("p5+1,p5+1", 10, 0, 1);
        fogged("p5+1,p5+1,p5+1", 5, 0, 1);
        // Apart, if the first is not late, and just one of the others: 7 * 2 * 3 * 7 of 1000.
        fogged("p5+1,p6+1,p6+1", 3, 147, 500);
        fogged("p5+1,p6+1", 0, 1, 1);
        fogged("p5+1,p6+1", 10, 1, 1);
        fogged("p1+0,p1+0,p20+0,p20+0,p40+0,p40+0", 1, 729, 125000);
    }

    private static void promise25And26() {
        NineNoons x = Due.of("p5+1@3,h20+2");
        due.is("26: none", x.restore(), NineNoons.NONE);
        x.seed(9);
        x.days(2);
        x.move(0, 8);
        due.is("25: image", x.image(), 1);
        x.type('p');
        x.sheet(2, 3, 4);
        x.undo();
        x.undo();
        x.set(1, 59);
        x.storm(9);
        due.is("26: restored", x.restore(), 1);
        due.is("26: minute", x.of(0, 1), 7);
        due.is("26: minute", x.of(1, 1), 24);
        due.is("26: miles", x.of(0, 3), 8);
        due.is("26: day", x.count(1), 2);
        due.is("26: what may be undone", x.count(6), 3);
        due.is("26: the draw", x.seed(10), 9);
        due.is("26: the tape stays", x.type('5'), 2);
        due.is("26: sheets stay", x.drop(2), 4);
        due.is("26: undone as then", x.undo(), 2);
        due.is("26: miles", x.of(0, 3), 3);
        due.is("26: undone as then", x.undo(), 1);
        due.is("26: minute", x.of(0, 1), 6);
        Due.valley(x, "+1,p2+2,p3+3");
        due.is("26: another valley", x.count(0), 3);
        due.is("26: once more", x.restore(), 1);
        due.is("26: two villages", x.count(0), 2);
        due.is("26: kind", x.of(1, 0), 2);
        due.is("26: what may be undone", x.count(6), 3);
        x.village(4, 1, 1);
        x.image();
        x.days(1);
        x.restore();
        due.is("25: a later image is in place of it", x.count(0), 3);
        due.is("26: nothing to be undone", x.undo(), NineNoons.NONE);
        ring();
        NineNoons empty = new NineNoons();
        due.is("25: of an empty valley", empty.image(), 1);
        empty.village(0, 0, 0);
        due.is("26: restored", empty.restore(), 1);
        due.is("26: empty", empty.count(0), 0);
    }

    /** All eight that may be undone are in the image, wherever the latest stood. */
    private static void ring() {
        for (int days = 8; days <= 16; days++) {
            NineNoons x = Due.of("p0+1");
            x.days(days);
            x.image();
            x.days(5);
            x.restore();
            for (int left = 7; left >= 0; left--) {
                due.is("26: undone", x.undo(), left);
                due.is("26: the minute", x.of(0, 1), days - 8 + left);
            }
        }
    }

    private static void nothingIsChanged() {
        NineNoons x = Due.of("p5+4@3,s12-7@12,h40+5@20,f58-6@9,c30+2@31,p21-1");
        x.seed(4);
        x.days(3);
        String before = told(x);
        x.ahead(1, 60);
        x.near(60);
        x.meet(0, 3);
        x.together(0);
        x.together(1);
        x.fix(8, -1);
        x.fix(12, 3);
        x.free(3, 0);
        x.hear(0, 0, 1, -1);
        x.again();
        x.worst(0);
        x.worst(1);
        x.fog(3, 0);
        x.image();
        x.sheet(0, 0, 24);
        x.film(3, 24, 0, 0, 0);
        x.heard(3, 0, 0, 0, 8, 0);
        x.heard(3, 0, 0, 0, 8, 1);
        due.isTrue("15 to 28: nothing is changed", before.equals(told(x)));
        due.is("the draw", x.seed(4), 4);
    }

    private static String told(NineNoons x) {
        StringBuilder all = new StringBuilder();
        for (int what = 0; what < 7; what++) {
            all.append(x.count(what)).append(' ');
            for (int village = 0; village < 6; village++) {
                all.append(x.of(village, what)).append(' ');
            }
        }
        return all.toString();
    }
}
