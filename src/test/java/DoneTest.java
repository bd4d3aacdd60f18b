/** Promises 8 to 14: days, set, move, tune, storm, undo, seed. */
public final class DoneTest {
    private static final Due due = new Due();

    public static void main(String[] args) {
        promise8();
        promise8AllAtOnce();
        promise8Full();
        promise9();
        promise10();
        promise11();
        promise12();
        promise13();
        promise13Ring();
        promise13Draw();
        promise14();
        due.end();
    }

    private static void promise8() {
        NineNoons x = Due.of("p58+3,s10-7@30,f20+9");
        for (int n : new int[] {0, -1, 41, Integer.MIN_VALUE, Integer.MAX_VALUE}) {
            due.is("8: days(" + n + ")", x.days(n), NineNoons.BAD);
        }
        due.is("8: nothing changed", x.count(1), 0);
        due.is("8: a day", x.days(1), 6);
        due.minutes("8: a day", x, "1 7 24");
        due.is("8: the odd day goes back", x.days(1), 0);
        due.minutes("8: two", x, "4 4 20");
        due.is("8: the day", x.count(1), 2);
        due.is("8: 39", x.days(39), 6);
        due.minutes("8: 41 days: 58 and 123, 10 less 123, 24", x, "1 7 24");
        due.is("8: undone", x.undo(), 7);
        due.minutes("8: 40 days", x, "58 10 20");
        due.is("8: 40", x.days(40), 10);
        due.minutes("8: 80 days: 58 and 240, 10 less 240, 20", x, "58 10 20");
        due.is("8: each by itself", x.undo(), 7);
        due.is("8: the day", x.count(1), 79);
        NineNoons none = new NineNoons();
        due.is("8: without villages", none.days(40), 30);
        due.is("8: the day", none.count(1), 40);
        due.is("8: one village", Due.of("p0+9").days(1), 30);
    }

    /** Hearers hear by how all was ahead of the day, whatever number they have. */
    private static void promise8AllAtOnce() {
        NineNoons x = Due.of("p0+9,h5+3,p12+0");
        x.days(1);
        due.minutes("8: 0 goes from 5, then 9 hears 12", x, "9 8 12");
        x.days(1);
        due.minutes("8: the hearer stands: 9 is 1 from 8", x, "18 8 12");
        x.days(1);
        due.minutes("8: it goes: 18, 12 are far", x, "27 11 12");
        NineNoons y = Due.of("h5+3,p9-9");
        y.days(1);
        due.minutes("8: heard by how all is ahead", y, "8 0");
    }

    private static void promise8Full() {
        NineNoons x = Due.of("p0+1,f30+9");
        for (int i = 0; i < 249; i++) {
            x.days(40);
        }
        due.is("8: 9960", x.count(1), 9960);
        due.is("8: above 9999", x.days(40), NineNoons.FULL);
        due.is("12: above 9999", x.storm(40), NineNoons.FULL);
        due.is("8: bad ahead of full", x.days(41), NineNoons.BAD);
        due.is("12: bad ahead of full", x.storm(0), NineNoons.BAD);
        due.is("12: the draw stays", x.seed(1), 1);
        due.is("8: nothing changed", x.count(1), 9960);
        due.is("8: just 9999", x.days(39), Due.of("p39+1,f34+0").gap(0, 1));
        due.is("8: 9999", x.count(1), 9999);
        due.is("8: one more", x.days(1), NineNoons.FULL);
        due.is("12: one more", x.storm(1), NineNoons.FULL);
        due.is("15: foretold all the same", x.ahead(0, 60), 39);
        due.is("8: undone", x.undo(), 7);
        due.is("12: and so there is one", x.storm(1) >= 0 ? 1 : 0, 1);
    }

    private static void promise9() {
        NineNoons x = Due.of("p5+1,p6+1");
        due.is("9: no such village", x.set(2, 0), NineNoons.BAD);
        due.is("9: village -1", x.set(-1, 0), NineNoons.BAD);
        due.is("9: minute -1", x.set(0, -1), NineNoons.BAD);
        due.is("9: minute 60", x.set(0, 60), NineNoons.BAD);
        due.is("9: so it is", x.set(0, 5), NineNoons.NOT);
        due.is("9: nothing to be undone", x.count(6), 0);
        due.is("9: set", x.set(1, 59), 6);
        due.minutes("9: set", x, "5 59");
        due.is("9: set", x.set(1, 0), 59);
        due.is("9: the day stays", x.count(1), 0);
        due.is("9: to be undone", x.undo(), 1);
        due.minutes("9: undone", x, "5 59");
    }

    private static void promise10() {
        NineNoons x = Due.of("p5+1@7,c36+1");
        due.is("10: no such village", x.move(2, 0), NineNoons.BAD);
        due.is("10: village -1", x.move(-1, 0), NineNoons.BAD);
        due.is("10: miles -1", x.move(0, -1), NineNoons.BAD);
        due.is("10: miles 41", x.move(0, 41), NineNoons.BAD);
        due.is("10: so they are", x.move(0, 7), NineNoons.NOT);
        due.is("10: nothing to be undone", x.count(6), 0);
        due.is("10: cousin near", x.of(1, 4), 32);
        due.is("10: moved", x.move(1, 40), 0);
        due.is("10: miles", x.of(1, 3), 40);
        due.is("10: cousin far", x.of(1, 4), 31);
        due.is("10: moved", x.move(1, 39), 40);
        due.is("10: to be undone", x.undo(), 1);
        due.is("10: undone", x.of(1, 3), 40);
        due.is("10: to 0", x.move(1, 0), 40);
        due.is("10: miles 0", x.of(1, 3), 0);
    }

    private static void promise11() {
        NineNoons x = Due.of("p5+1,p6-9");
        due.is("11: no such village", x.tune(2, 0), NineNoons.BAD);
        due.is("11: village -1", x.tune(-1, 0), NineNoons.BAD);
        due.is("11: drift -1", x.tune(0, -1), NineNoons.BAD);
        due.is("11: drift 19", x.tune(0, 19), NineNoons.BAD);
        due.is("11: so it is", x.tune(0, 10), NineNoons.NOT);
        due.is("11: nothing to be undone", x.count(6), 0);
        due.is("11: tuned", x.tune(1, 18), 0);
        due.is("11: drift", x.of(1, 2), 18);
        due.is("11: later", x.of(1, 4), 39);
        due.is("11: tuned", x.tune(1, 0), 18);
        due.is("11: to be undone", x.undo(), 1);
        due.is("11: undone", x.of(1, 2), 18);
    }

    private static void promise12() {
        NineNoons x = new NineNoons();
        for (int n : new int[] {0, -1, 41, Integer.MIN_VALUE, Integer.MAX_VALUE}) {
            due.is("12: storm(" + n + ")", x.storm(n), NineNoons.BAD);
        }
        due.is("12: without villages", x.storm(2), 30);
        due.is("12: the day", x.count(1), 2);
        due.is("12: the draw all the same", x.seed(1), Due.nextDraw(Due.nextDraw(1)));
        NineNoons y = Due.of("p0+1,p20+2,p40+3");
        y.seed(2147483647);
        long draw = 2147483647L;
        int[] minutes = {0, 20, 40};
        for (int day = 1; day <= 30; day++) {
            draw = Due.nextDraw(draw);
            minutes[(int) (draw / 65536 % 3)] += (int) (draw / 128 % 5);
            for (int village = 0; village < 3; village++) {
                minutes[village] = (minutes[village] + village + 1) % 60;
            }
            long least = y.storm(1);
            due.minutes("12: day " + day, y, minutes[0] + " " + minutes[1] + " " + minutes[2]);
            due.is("12: least gap", least, Math.min(Math.min(y.gap(0, 1), y.gap(0, 2)), y.gap(1, 2)));
        }
        due.is("12: the day", y.count(1), 30);
        due.is("12: each may be undone", y.count(6), 8);
        due.is("12: the draw", y.seed(1), draw);
        // 1103527590: village 1103527590 / 65536 = 16838, left over by 2: 0; by 128: 8621309, left over by 5: 4.
        NineNoons z = Due.of("h0+9,p6+0");
        due.is("12: later ahead of the day, so that the hearer hears", z.storm(1), 2);
        due.minutes("12: 4, which hears 6", z, "4 6");
        due.is("12: with its minutes one", z.undo(), 0);
        due.minutes("12: undone", z, "0 6");
        due.is("12: the draw, too", z.seed(1), 1);
        NineNoons one = Due.of("p57+0");
        due.is("12: one village", one.storm(1), 30);
        due.minutes("12: 4 later round the hour", one, "1");
    }

    private static void promise13() {
        NineNoons x = Due.of("p5+1@3");
        due.is("13: none", x.undo(), NineNoons.NONE);
        x.days(2);
        x.set(0, 30);
        x.move(0, 9);
        x.tune(0, 0);
        due.is("13: tuned", x.undo(), 4);
        due.is("13: drift", x.of(0, 2), 10);
        due.is("13: miles", x.of(0, 3), 9);
        due.is("13: moved", x.undo(), 3);
        due.is("13: miles", x.of(0, 3), 3);
        due.is("13: minute", x.of(0, 1), 30);
        due.is("13: set", x.undo(), 2);
        due.is("13: minute", x.of(0, 1), 7);
        due.is("13: day", x.count(1), 2);
        due.is("13: a day", x.undo(), 1);
        due.is("13: minute", x.of(0, 1), 6);
        due.is("13: day", x.count(1), 1);
        x.days(1);
        due.is("13: anew", x.undo(), 1);
        due.is("13: the first day", x.undo(), 0);
        due.is("13: minute", x.of(0, 1), 5);
        due.is("13: day", x.count(1), 0);
        due.is("13: none", x.undo(), NineNoons.NONE);
        x.days(1);
        x.village(0, 0, 0);
        due.is("13: a new village", x.undo(), NineNoons.NONE);
    }

    private static void promise13Ring() {
        NineNoons x = Due.of("p0+1");
        x.days(11);
        for (int left = 7; left >= 0; left--) {
            due.is("13: of eight", x.undo(), left);
            due.is("13: the day", x.count(1), 3 + left);
            due.is("13: the minute", x.of(0, 1), 3 + left);
        }
        due.is("13: older ones are lost", x.undo(), NineNoons.NONE);
    }

    private static void promise13Draw() {
        NineNoons x = Due.of("p0+1");
        x.seed(5);
        x.set(0, 9);
        x.seed(6);
        x.undo();
        due.is("13: the draw as ahead of it, whatever was told since", x.seed(5), 5);
        x.storm(2);
        long second = Due.nextDraw(5);
        x.undo();
        due.is("13: the draw ahead of the second day", x.seed(8), second);
        x.undo();
        due.is("13: the draw ahead of the first", x.seed(8), 5);
    }

    private static void promise14() {
        NineNoons x = new NineNoons();
        due.is("14: -1", x.seed(-1), NineNoons.BAD);
        due.is("14: least", x.seed(Integer.MIN_VALUE), NineNoons.BAD);
        due.is("14: 1 at first", x.seed(0), 1);
        due.is("14: 0", x.seed(2147483647), 0);
        due.is("14: greatest", x.seed(3), 2147483647);
        due.is("14: nothing to be undone", x.undo(), NineNoons.NONE);
        x.storm(1);
        due.is("14: drawn from it", x.seed(3), Due.nextDraw(3));
    }
}
