import java.util.Random;

/** All promises: many runs of calls, ordinary and wrong ones, answered as the model answers them. */
public final class ModelTest {
    private static final int RUNS = 500;
    private static final int CALLS = 512;
    /** A text that is typed and read takes up to so many calls at once. */
    private static final int CALLS_OF_A_TEXT = 80;
    private static final int[] ODD = {-2, -1, 0, 60, 61, Integer.MIN_VALUE, Integer.MAX_VALUE};

    private final Random random;
    private final NineNoons x = new NineNoons();
    private final Model model = new Model();
    private final Due due;
    private final int run;
    private int calls = 0;

    private ModelTest(int run, Due due) {
        this.run = run;
        this.due = due;
        this.random = new Random(run);
    }

    public static void main(String[] args) {
        Due due = new Due();
        for (int run = 1; run <= RUNS; run++) {
            ModelTest test = new ModelTest(run, due);
            while (test.calls < CALLS - CALLS_OF_A_TEXT) {
                test.call();
            }
        }
        due.end();
    }

    /** A number mostly from least to most, now and then an odd one. */
    private int number(int least, int most) {
        int chance = random.nextInt(40);
        if (chance == 0) {
            return ODD[random.nextInt(ODD.length)];
        }
        if (chance == 1) {
            return random.nextBoolean() ? least - 1 : most + 1;
        }
        return least + random.nextInt(most - least + 1);
    }

    private int aVillage() {
        return number(0, Math.max(1, model.count(0)) - 1);
    }

    private void is(String name, long got, long want, int... arguments) {
        calls++;
        StringBuilder call = new StringBuilder("run " + run + ": " + name);
        for (int argument : arguments) {
            call.append(' ').append(argument);
        }
        due.is(call.toString(), got, want);
    }

    private void call() {
        int which = random.nextInt(100);
        if (which < 25) {
            done();
        } else if (which < 45) {
            villages();
        } else if (which < 75) {
            foretold();
        } else {
            sheets();
        }
    }

    private void villages() {
        int v = aVillage();
        int o = aVillage();
        switch (random.nextInt(7)) {
            case 0: {
                int kind = number(0, 4);
                int minute = number(0, 59);
                int drift = number(-9, 9);
                is("village", x.village(kind, minute, drift), model.village(kind, minute, drift), kind, minute, drift);
                break;
            }
            case 1: case 2: {
                int what = number(0, 5);
                is("of", x.of(v, what), model.of(v, what), v, what);
                break;
            }
            case 3:
                is("gap", x.gap(v, o), model.gapOf(v, o), v, o);
                break;
            case 4:
                if (random.nextInt(6) == 0) {
                    typed();
                }
                break;
            default: {
                int what = number(0, 6);
                is("count", x.count(what), model.count(what), what);
            }
        }
    }

    /** A text that is a valley, or nearly one. */
    private void typed() {
        StringBuilder text = new StringBuilder();
        int villages = 1 + random.nextInt(random.nextInt(8) == 0 ? 7 : 5);
        for (int i = 0; i < villages; i++) {
            text.append(i == 0 ? "" : ",").append("pshfc".charAt(random.nextInt(5))).append(random.nextInt(60));
            text.append(random.nextBoolean() ? '+' : '-').append(random.nextInt(10));
            if (random.nextBoolean()) {
                text.append('@').append(random.nextInt(41));
            }
        }
        int faults = random.nextInt(3) == 0 ? 0 : random.nextInt(3);
        for (int i = 0; i < faults; i++) {
            int place = random.nextInt(text.length());
            char letter = "pshfc0123456789+-@,   x".charAt(random.nextInt(23));
            if (random.nextBoolean()) {
                text.insert(place, letter);
            } else {
                text.setCharAt(place, letter);
            }
        }
        if (random.nextInt(4) == 0) {
            text.setLength(random.nextInt(text.length() + 1));
        }
        for (char letter : text.toString().toCharArray()) {
            is("type", x.type(letter), model.type(letter), letter);
        }
        int wrong = number(32, 126);
        if (random.nextInt(20) == 0) {
            is("type", x.type(wrong), model.type(wrong), wrong);
        }
        is("valley '" + text + "'", x.valley(), model.valley());
    }

    private void done() {
        int v = aVillage();
        switch (random.nextInt(9)) {
            case 0: case 1: {
                int n = random.nextInt(3) == 0 ? number(1, 40) : number(1, 3);
                is("days", x.days(n), model.days(n, false), n);
                break;
            }
            case 2: {
                int n = random.nextInt(3) == 0 ? number(1, 40) : number(1, 3);
                is("storm", x.storm(n), model.days(n, true), n);
                break;
            }
            case 3: {
                int minute = number(0, 59);
                is("set", x.set(v, minute), model.set(v, minute), v, minute);
                break;
            }
            case 4: {
                int miles = number(0, 40);
                is("move", x.move(v, miles), model.move(v, miles), v, miles);
                break;
            }
            case 5: {
                int drift = number(0, 18);
                is("tune", x.tune(v, drift), model.tune(v, drift), v, drift);
                break;
            }
            case 6: {
                int seed = random.nextInt();
                is("seed", x.seed(seed), model.seed(seed), seed);
                break;
            }
            default:
                is("undo", x.undo(), model.undo());
        }
    }

    private void foretold() {
        int v = aVillage();
        int o = aVillage();
        int n = number(0, 60);
        int what = number(0, 1);
        switch (random.nextInt(13)) {
            case 0: is("ahead", x.ahead(v, n), model.ahead(v, n), v, n); break;
            case 1: is("near", x.near(n), model.near(n), n); break;
            case 2: is("meet", x.meet(v, o), model.meet(v, o), v, o); break;
            case 3: is("together", x.together(what), model.together(what), what); break;
            case 4: case 5: fixed(); break;
            case 6: {
                int g = number(1, random.nextBoolean() ? 8 : 30);
                int which = number(0, 2);
                is("free", x.free(g, which), model.free(g, which), g, which);
                break;
            }
            case 7: carried(v); break;
            case 8: is("again", x.again(), model.again()); break;
            case 9: is("worst", x.worst(what), model.worst(what), what); break;
            case 10: {
                int c = number(0, 10);
                is("fog", x.fog(c, what), model.fog(c, what), c, what);
                break;
            }
            case 11:
                if (random.nextInt(3) == 0) {
                    is("image", x.image(), model.image());
                }
                break;
            default:
                if (random.nextInt(3) == 0) {
                    is("restore", x.restore(), model.restore());
                }
        }
    }

    private void fixed() {
        int g = number(1, 12);
        int v = random.nextBoolean() ? -1 : aVillage();
        is("fix", x.fix(g, v), model.fix(g, v), g, v);
    }

    private void carried(int v) {
        int minute = number(0, 59);
        int w = number(1, 9);
        int k = number(-1, 5);
        is("hear", x.hear(v, minute, w, k), model.hear(v, minute, w, k), v, minute, w, k);
    }

    private void sheets() {
        int v = aVillage();
        int sheet = number(0, 3);
        // Mostly the lane of the sheet's own number, so that there are rows alike and unlike.
        int lane = random.nextInt(4) == 0 ? number(0, 3) : sheet / 2;
        int i = random.nextInt(4) == 0 ? number(0, 24) : number(0, 4);
        switch (random.nextInt(7)) {
            case 0: {
                int n = number(0, 24);
                is("sheet", x.sheet(sheet, lane, n), model.sheet(sheet, lane, n), sheet, lane, n);
                break;
            }
            case 1:
                if (random.nextInt(4) == 0) {
                    is("drop", x.drop(sheet), model.drop(sheet), sheet);
                }
                break;
            case 2: {
                long value = random.nextInt(4) == 0 ? random.nextLong() : random.nextInt(60) + (random.nextLong() << 16);
                is("item", x.item(sheet, lane, i, value), model.item(sheet, lane, i, value), sheet, lane, i);
                break;
            }
            case 3: {
                int to = number(0, 3);
                int j = number(0, 6);
                int n = number(0, 8);
                is("copy", x.copy(sheet, i, to, j, n), model.copy(sheet, i, to, j, n), sheet, i, to, j, n);
                break;
            }
            case 4: {
                int n = number(1, 24);
                int film = x.film(v, n, sheet, lane, i);
                is("film", film, model.film(v, n, sheet, lane, i), v, n, sheet, lane, i);
                listened(v, sheet, lane, i);
                break;
            }
            default:
                listened(v, sheet, lane, i);
        }
    }

    private void listened(int v, int sheet, int lane, int i) {
        int n = number(1, random.nextBoolean() ? 2 : 8);
        int what = number(0, 1);
        is("heard", x.heard(v, sheet, lane, i, n, what), model.heard(v, sheet, lane, i, n, what), v, sheet, lane, i, n, what);
    }
}
