/**
 * Part 1 of the document and promises 1 to 5 and 7: a test for each sentence that names an edge.
 * Each row begins with its promise ("part 1": of that part) and the sentence.
 */
public final class EdgeVillagesTest {
    private static final Due due = new Due();
    private static final Edge edge = new Edge(due);
    private static final int BAD = NineNoons.BAD;
    private static final String KINDS = "pshfc";
    private static final int[] HALVES = {-4, -4, -3, -3, -2, -2, -1, -1, 0, 0, 0, 1, 1, 2, 2, 3, 3, 4, 4};

    public static void main(String[] args) {
        sixVillages();
        minutesOfEachHour();
        drifts();
        dayZeroAtFirst();
        gapTheShorterWayRound();
        laterRoundTheHour();
        slowIsHalfCutTowardsZero();
        hearerByGapsOfThree();
        hearerByAnyOther();
        foggyByEvenDays();
        cousinByTenMiles();
        cousinOfTheOneBefore();
        cousinAlone();
        cousinHearsToo();
        allByHowAllIsAhead();
        theNextDay();
        anEmptyValley();
        newVillage();
        ofEachWhat();
        ofRefuses();
        gapRefuses();
        typeTakesLetters();
        typeIsFullAtSixty();
        countOfNothing();
        countOfMost();
        countRefuses();
        due.end();
    }

    private static String village(int kind, int minute, int drift, int miles) {
        return KINDS.charAt(kind) + "" + minute + (drift < 0 ? "-" : "+") + Math.abs(drift) + "@" + miles;
    }

    // ---- part 1

    private static void sixVillages() {
        NineNoons x = new NineNoons();
        for (int village = 0; village < 6; village++) {
            due.is("part 1: VILLAGES as they come: not there yet", x.of(village, 0), BAD);
            due.is("part 1: VILLAGES 0 .. 5, as they come", x.village(0, village, 0), village);
            due.is("part 1: VILLAGES 0 .. 5: there", x.of(village, 1), village);
        }
        due.is("part 1: VILLAGES 0 .. 5: no sixth", x.of(6, 0), BAD);
        due.is("part 1: VILLAGES 0 .. 5: it is full", x.village(0, 6, 0), NineNoons.FULL);
        due.is("part 1: VILLAGES 0 .. 5: six of them", x.count(0), 6);
    }

    private static void minutesOfEachHour() {
        NineNoons x = Due.of("p30+0");
        for (int minute = 0; minute < 60; minute++) {
            if (minute != 30) {
                x.set(0, minute);
                due.is("part 1: at a MINUTE 0 .. 59", x.of(0, 1), minute);
            }
        }
    }

    private static void drifts() {
        for (int kind = 0; kind < 5; kind++) {
            for (int drift = -9; drift <= 9; drift++) {
                NineNoons x = new NineNoons();
                due.is("part 1: DRIFTS by -9 .. 9: taken", x.village(kind, 0, drift), 0);
                due.is("part 1: DRIFTS by -9 .. 9", x.of(0, 2), drift + 9);
            }
        }
    }

    private static void dayZeroAtFirst() {
        due.is("part 1: DAY 0 at first", new NineNoons().count(1), 0);
        due.is("part 1: DAY 0 at first, so FOGGY as SLOW", Due.of("f0+4").of(0, 4), 32);
    }

    private static void gapTheShorterWayRound() {
        for (int minute = 0; minute < 60; minute++) {
            NineNoons x = new NineNoons();
            x.village(0, minute, 0);
            x.village(0, 0, 0);
            for (int away = 0; away < 60; away++) {
                x.set(1, (minute + away) % 60);
                int gap = away <= 30 ? away : 60 - away;
                due.is("part 1: GAP from " + minute + ", " + away + " later", x.gap(0, 1), gap);
                due.is("part 1: GAP is that of the other, too", x.gap(1, 0), gap);
            }
        }
    }

    private static void laterRoundTheHour() {
        for (int kind = 0; kind < 5; kind++) {
            for (int drift = -9; drift <= 9; drift++) {
                int later = kind == 1 || kind == 3 ? HALVES[drift + 9] : drift;
                for (int minute = 0; minute < 60; minute++) {
                    NineNoons x = new NineNoons();
                    x.village(kind, minute, drift);
                    due.is("part 1: later by KIND " + kind + ", DRIFT " + drift, x.of(0, 4), later + 30);
                    x.days(1);
                    due.is("part 1: all round the hour, from " + minute + " by " + later, x.of(0, 1), (minute + later + 60) % 60);
                }
            }
        }
    }

    private static void slowIsHalfCutTowardsZero() {
        for (int drift = -9; drift <= 9; drift++) {
            due.is("part 1: SLOW: half, cut towards 0, of " + drift,
                Due.of(village(1, 0, drift, 0)).of(0, 4), HALVES[drift + 9] + 30);
        }
    }

    private static void hearerByGapsOfThree() {
        for (int kind : new int[] {2, 4}) {
            for (int minute = 0; minute < 60; minute++) {
                for (int away = 0; away < 60; away++) {
                    int gap = Math.min(away, 60 - away);
                    NineNoons x = Due.of(village(kind, minute, -7, 0) + "," + village(0, (minute + away) % 60, 0, 40));
                    due.is("part 1: 0, if GAP is 3 or less: at " + minute + ", GAP " + gap, x.of(0, 4), gap <= 3 ? 30 : 23);
                }
            }
        }
    }

    private static void hearerByAnyOther() {
        for (int hearer = 0; hearer < 6; hearer++) {
            for (int near = 0; near < 6; near++) {
                NineNoons x = new NineNoons();
                for (int village = 0; village < 6; village++) {
                    x.village(village == hearer ? 2 : 0, village == hearer ? 0 : village == near ? 3 : 10 + 5 * village, 5);
                }
                due.is("part 1: if there is another VILLAGE: " + near + " for " + hearer,
                    x.of(hearer, 4), near == hearer ? 35 : 30);
                due.is("part 1: PLAIN hears none", x.of((hearer + 1) % 6, 4), 35);
            }
        }
        NineNoons slow = Due.of("s0+4,f0+4,p0+4");
        due.is("part 1: SLOW hears none", slow.of(0, 4), 32);
        due.is("part 1: FOGGY hears none", slow.of(1, 4), 32);
    }

    private static void foggyByEvenDays() {
        for (int drift = -9; drift <= 9; drift++) {
            NineNoons x = Due.of(village(3, 0, drift, 0));
            for (int day = 0; day < 5; day++) {
                int half = HALVES[drift + 9];
                due.is("part 1: FOGGY on DAY " + day, x.of(0, 4), 30 + (day % 2 == 0 ? half : -half));
                due.is("part 1: FOGGY goes there and back", x.of(0, 1), day % 2 == 0 ? 0 : (half + 60) % 60);
                x.days(1);
            }
        }
    }

    private static void cousinByTenMiles() {
        for (int miles = 0; miles <= 40; miles++) {
            for (int other = 0; other <= 40; other++) {
                NineNoons x = Due.of(village(0, 30, 0, other) + "," + village(4, 0, 6, miles));
                due.is("part 1: 1 more, if MILES 10 or less away: " + miles + " and " + other,
                    x.of(1, 4), Math.abs(miles - other) <= 10 ? 37 : 36);
            }
        }
    }

    private static void cousinOfTheOneBefore() {
        for (int villages = 2; villages <= 6; villages++) {
            for (int cousin = 0; cousin < villages; cousin++) {
                for (int near = 0; near < villages; near++) {
                    NineNoons x = new NineNoons();
                    for (int village = 0; village < villages; village++) {
                        x.village(village == cousin ? 4 : 0, 10 * village, -6);
                        x.move(village, village == cousin || village == near ? 40 : 0);
                    }
                    boolean before = near == (cousin == 0 ? villages - 1 : cousin - 1);
                    due.is("part 1: the VILLAGE before it (the last one, for 0): " + near + " for " + cousin + " of " + villages,
                        x.of(cousin, 4), before ? 25 : 24);
                }
            }
        }
    }

    private static void cousinAlone() {
        NineNoons x = Due.of("c0+6");
        due.is("part 1: there must be another one", x.of(0, 4), 36);
        x.village(0, 30, 0);
        due.is("part 1: there is another one", x.of(0, 4), 37);
    }

    private static void cousinHearsToo() {
        due.is("part 1: COUSIN as HEARER; 1 more", Due.of("c0+9,p3+0").of(0, 4), 31);
        due.is("part 1: COUSIN as HEARER, far away", Due.of("c0+9,p3+0@11").of(0, 4), 30);
        due.is("part 1: COUSIN most", Due.of("c0+9,p4+0@10").of(0, 4), 40);
        due.is("part 1: COUSIN least", Due.of("c0-9,p4+0@10").of(0, 4), 22);
        NineNoons x = Due.of("c55+9,p30+0");
        x.days(1);
        due.is("part 1: COUSIN by 10 round the hour", x.of(0, 1), 5);
    }

    private static void allByHowAllIsAhead() {
        String[][] valleys = {{"h0+5,h4-5", "5 59"}, {"h4-5,h0+5", "59 5"}, {"h0+5,h3-5", "0 3"}, {"h3-5,h0+5", "3 0"},
            {"p0+3,h4+5", "3 9"}, {"h4+5,p0+3", "9 3"}, {"p3+3,h0+5", "6 0"}, {"h0+5,p3+3", "0 6"}};
        for (String[] valley : valleys) {
            NineNoons x = Due.of(valley[0]);
            x.days(1);
            due.isTrue("part 1: all MINUTES change, by how all is ahead of it: " + valley[0] + " to " + Due.minutes(x),
                Due.minutes(x).equals(valley[1]));
        }
    }

    private static void theNextDay() {
        NineNoons x = Due.of("p0+1");
        for (int day = 1; day <= 3; day++) {
            x.days(1);
            due.is("part 1: it is the next DAY", x.count(1), day);
        }
        x.set(0, 30);
        x.move(0, 30);
        x.tune(0, 0);
        due.is("part 1: SET, MOVED, TUNED is no DAY", x.count(1), 3);
    }

    // ---- promises 1 to 5 and 7

    private static void anEmptyValley() {
        String empty = "1: an empty valley: ";
        due.is(empty + "VILLAGES", new NineNoons().count(0), 0);
        due.is(empty + "THE DRAW 1 at first", new NineNoons().seed(5), 1);
        due.is(empty + "THE TAPE", new NineNoons().type(' '), 1);
        due.is(empty + "no IMAGE", new NineNoons().restore(), NineNoons.NONE);
        due.is(empty + "nothing UNDONE", new NineNoons().undo(), NineNoons.NONE);
        for (int sheet = 0; sheet < 4; sheet++) {
            due.is(empty + "SHEETS nothing at first", new NineNoons().drop(sheet), NineNoons.NULL);
        }
        edge.refused(empty + "of", BAD, Scene.EMPTY, x -> x.of(0, 0));
        edge.refused(empty + "gap", BAD, Scene.EMPTY, x -> x.gap(0, 1));
        edge.refused(empty + "set", BAD, Scene.EMPTY, x -> x.set(0, 0));
        edge.refused(empty + "move", BAD, Scene.EMPTY, x -> x.move(0, 1));
        edge.refused(empty + "tune", BAD, Scene.EMPTY, x -> x.tune(0, 0));
        edge.refused(empty + "ahead", BAD, Scene.EMPTY, x -> x.ahead(0, 0));
        edge.refused(empty + "meet", BAD, Scene.EMPTY, x -> x.meet(0, 1));
        edge.refused(empty + "fix", BAD, Scene.EMPTY, x -> x.fix(1, 0));
        edge.refused(empty + "hear", BAD, Scene.EMPTY, x -> x.hear(0, 0, 1, -1));
        edge.refused(empty + "heard", BAD, Scene.EMPTY, x -> x.heard(0, 0, 0, 0, 1, 0));
        edge.refused(empty + "film", BAD, Scene.EMPTY, x -> x.film(0, 1, 0, 0, 0));
        edge.refused(empty + "undo", NineNoons.NONE, Scene.EMPTY, x -> x.undo());
        edge.refused(empty + "restore", NineNoons.NONE, Scene.EMPTY, x -> x.restore());
        edge.refused(empty + "valley", -20, Scene.EMPTY, x -> x.valley());
    }

    private static void newVillage() {
        edge.numbers("2: KIND", 0, 4, Scene.BUSY, (x, kind) -> x.village(kind, 5, 5));
        edge.numbers("2: MINUTE", 0, 59, Scene.BUSY, (x, minute) -> x.village(0, minute, 5));
        edge.numbers("2: DRIFT", -9, 9, Scene.BUSY, (x, drift) -> x.village(0, 5, drift));
        edge.refused("2: FULL: 6", NineNoons.FULL, Scene.FULL, x -> x.village(0, 5, 5));
        edge.refused("2: BAD ahead of FULL: KIND", BAD, Scene.FULL, x -> x.village(5, 5, 5));
        edge.refused("2: BAD ahead of FULL: MINUTE", BAD, Scene.FULL, x -> x.village(0, 60, 5));
        edge.refused("2: BAD ahead of FULL: DRIFT", BAD, Scene.FULL, x -> x.village(0, 5, 10));
        NineNoons x = Due.of("p1+1@40,p1+1@40,p1+1@40");
        x.seed(9);
        Due.valley(x, "p1+1@40,p1+1@40");
        x.days(3);
        due.is("2: its number", x.village(3, 59, -9), 2);
        int[] want = {3, 59, 0, 0};
        for (int what = 0; what < 4; what++) {
            due.is("2: at MILES 0: what " + what, x.of(2, what), want[what]);
        }
        due.is("2: the DAY stays", x.count(1), 3);
        due.is("2: a new VILLAGE leaves nothing to be UNDONE", x.count(6), 0);
        due.is("2: a new VILLAGE leaves nothing to be UNDONE", x.undo(), NineNoons.NONE);
        due.is("2: THE DRAW stays", x.seed(1), 9);
    }

    private static void ofEachWhat() {
        NineNoons x = Due.of("p0-9@0,s59+9@40,h0+0@1,f0-1@39,c0+1@20,p59+9@40");
        int[][] want = {{0, 0, 0, 0, 21, 28}, {1, 59, 18, 40, 34, 32}, {2, 0, 9, 1, 30, 25},
            {3, 0, 8, 39, 30, 21}, {4, 0, 10, 20, 30, 13}, {0, 59, 18, 40, 39, 2}};
        for (int village = 0; village < 6; village++) {
            for (int what = 0; what < 6; what++) {
                due.is("3: of(" + village + ", " + what + ")", x.of(village, what), want[village][what]);
            }
        }
        NineNoons all = Due.of("p7+0,p7+0,p7+0,p7+0,p7+0,p7+0");
        for (int village = 0; village < 6; village++) {
            due.is("3: with whom it RINGS together (a set)", all.of(village, 5), 63 - (1 << village));
        }
        due.is("3: with whom: none", Due.of("p0+0,p59+0,p1+0").of(0, 5), 0);
    }

    private static void ofRefuses() {
        edge.numbers("3: what", 0, 5, Scene.BUSY, (x, what) -> x.of(0, what));
        edge.numbers("3: VILLAGE", 0, 3, Scene.BUSY, (x, village) -> x.of(village, 0));
        edge.numbers("3: VILLAGE of 6", 0, 5, Scene.FULL, (x, village) -> x.of(village, 5));
        for (int what = 0; what < 6; what++) {
            int which = what;
            edge.changesNothing("3: of, what " + what, Scene.FULL, x -> x.of(4, which));
        }
    }

    private static void gapRefuses() {
        edge.numbers("4: VILLAGE", 0, 3, Scene.BUSY, (x, village) -> x.gap(village, village == 0 ? 1 : 2));
        edge.numbers("4: other", 0, 3, Scene.BUSY, (x, other) -> x.gap(other == 0 ? 1 : 2, other));
        for (int village = 0; village < 4; village++) {
            int one = village;
            edge.refused("4: BAD: alike numbers, too", BAD, Scene.BUSY, x -> x.gap(one, one));
        }
        edge.changesNothing("4: gap", Scene.BUSY, x -> x.gap(0, 1));
    }

    private static void typeTakesLetters() {
        edge.numbers("5: letter", 32, 126, Scene.BUSY, (x, letter) -> x.type(letter));
        for (int letter = -300; letter < 700; letter++) {
            due.is("5: type(" + letter + ")", new NineNoons().type(letter), letter >= 32 && letter <= 126 ? 1 : BAD);
        }
        due.is("5: only the lowest bits are a letter", new NineNoons().type(65536 + 'p'), BAD);
        due.is("5: only the lowest bits are a letter", new NineNoons().type('p' - 65536), BAD);
        NineNoons x = new NineNoons();
        Due.type(x, "s17");
        x.type(127);
        Due.type(x, "-4");
        due.is("5: one letter more behind THE TAPE", x.valley(), 1);
        due.is("5: one letter more behind THE TAPE", x.of(0, 1), 17);
    }

    private static void typeIsFullAtSixty() {
        NineNoons x = new NineNoons();
        for (int letters = 1; letters <= 60; letters++) {
            due.is("5: how many it has", x.type(' '), letters);
        }
        due.is("5: FULL: 60", x.type(' '), NineNoons.FULL);
        edge.refused("5: FULL: 60", NineNoons.FULL, Scene.FULL, y -> y.type('x'));
        edge.refused("5: BAD ahead of FULL", BAD, Scene.FULL, y -> y.type(127));
        edge.refused("5: BAD ahead of FULL", BAD, Scene.FULL, y -> y.type(31));
        x.valley();
        due.is("5: empty again", x.type(' '), 1);
    }

    private static void countOfNothing() {
        int[] empty = {0, 0, 30, 0, 0, 0, 0};
        for (int what = 0; what < 7; what++) {
            due.is("7: of an empty valley, what " + what, new NineNoons().count(what), empty[what]);
        }
        int[] one = {1, 0, 30, 0, 59, 40, 0};
        for (int what = 0; what < 7; what++) {
            due.is("7: of one VILLAGE, what " + what, Due.of("p59+9@40").count(what), one[what]);
        }
        due.is("7: the least GAP 30 of two", Due.of("p29+0,p59+0").count(2), 30);
        due.is("7: the least GAP 29 of two", Due.of("p29+0,p58+0").count(2), 29);
        due.is("7: the least GAP 1 round the hour", Due.of("p0+0,p30+0,p59+0").count(2), 1);
        due.is("7: the least GAP of the last two", Due.of("p0+0,p10+0,p20+0,p30+0,p40+0,p46+0").count(2), 6);
        due.is("7: the least GAP of the first and the last", Due.of("p0+0,p10+0,p20+0,p30+0,p40+0,p54+0").count(2), 6);
    }

    private static void countOfMost() {
        NineNoons x = Due.of("p59+9@40,p59+9@40,p59+9@40,p59+9@40,p59+9@40,p59+9@40");
        int[] most = {6, 0, 0, 63, 354, 240, 0};
        for (int what = 0; what < 7; what++) {
            due.is("7: of six, what " + what, x.count(what), most[what]);
        }
        due.is("7: two and two RING together, two alone", Due.of("p1+0,p2+0,p3+0,p2+0,p3+0,p4+0").count(3), 30);
        for (int n = 1; n <= 10; n++) {
            x.set(0, n);
            due.is("7: what may be UNDONE", x.count(6), Math.min(n, 8));
        }
        due.is("7: the DAY", Scene.LAST.make().count(1), 9999);
    }

    private static void countRefuses() {
        for (Scene scene : Scene.values()) {
            edge.numbers("7: what", 0, 6, scene, (x, what) -> x.count(what));
        }
        for (int what = 0; what < 7; what++) {
            int which = what;
            edge.changesNothing("7: count, what " + what, Scene.BUSY, x -> x.count(which));
        }
    }
}
