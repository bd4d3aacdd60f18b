import java.util.HashSet;
import java.util.Random;
import java.util.Set;

/** Promises 15 to 24, 27 and 28: what is foretold of random valleys is what comes, when it is done. */
public final class ComesTrueTest {
    private static final Due due = new Due();
    private static final int VALLEYS = 150;
    private static final int NONE = NineNoons.NONE;

    private final Random random;
    private final String text;
    private final int villages;

    private ComesTrueTest(int number) {
        random = new Random(number);
        villages = 1 + random.nextInt(6);
        // Minutes of one half hour, so that hearers hear, and some ring together.
        int minutes = random.nextBoolean() ? 60 : 30;
        StringBuilder told = new StringBuilder();
        for (int village = 0; village < villages; village++) {
            told.append(village == 0 ? "" : ",").append("pshfc".charAt(random.nextInt(5))).append(random.nextInt(minutes))
                .append(random.nextBoolean() ? '+' : '-').append(random.nextInt(10)).append('@').append(random.nextInt(41));
        }
        text = told.toString();
    }

    public static void main(String[] args) {
        for (int number = 1; number <= VALLEYS; number++) {
            ComesTrueTest test = new ComesTrueTest(number);
            test.days();
            test.again();
            test.worst();
            test.fix();
            test.free();
            test.fog();
            test.hear();
            test.heardOfFilm();
        }
        due.end();
    }

    /** The valley on an even or an odd day. */
    private NineNoons make(int days) {
        NineNoons x = Due.of(text);
        Due.passDays(x, days);
        return x;
    }

    private void is(String call, long got, long want) {
        due.is(call + " of " + text, got, want);
    }

    // ---- day by day

    private void days() {
        int start = random.nextInt(4);
        NineNoons then = make(start);
        int together = NONE;
        int which = 0;
        int meet = NONE;
        int one = random.nextInt(villages);
        int other = random.nextInt(villages);
        for (int n = 0; n <= 60; n++) {
            if (together == NONE && then.count(3) != 0) {
                together = n;
                which = then.count(3);
            }
            if (meet == NONE && one != other && then.gap(one, other) == 0) {
                meet = n;
            }
            if (n % 12 == 0 || n == 7) {
                is("15: ahead " + n, make(start).ahead(one, n), then.of(one, 1));
                is("16: near " + n, make(start).near(n), then.count(2));
            }
            then.days(1);
        }
        is("18: when", make(start).together(0), together);
        is("18: which", make(start).together(1), which);
        is("17: meet " + one + " " + other, make(start).meet(one, other), one == other ? NineNoons.BAD : meet);
    }

    private void again() {
        int start = random.nextInt(4);
        NineNoons then = make(start);
        String minutes = Due.minutes(then);
        int again = NONE;
        // A walk of 240 days that looks each time at six villages would be above 512 calls: it looks at two.
        for (int n = 2; n <= 240 && again == NONE; n += 2) {
            then.days(2);
            if (then.of(0, 1) == minuteOf(minutes, 0) && then.of(villages - 1, 1) == minuteOf(minutes, villages - 1)) {
                NineNoons seen = make(start);
                Due.passDays(seen, n);
                again = Due.minutes(seen).equals(minutes) ? n : NONE;
            }
        }
        is("22: again from day " + start, make(start).again(), again);
    }

    private static int minuteOf(String minutes, int village) {
        return Integer.parseInt(minutes.split(" ")[village]);
    }

    private void worst() {
        int worst = 0;
        int latest = -1;
        for (int village = 0; village < villages; village++) {
            NineNoons x = make(0);
            x.tune(village, 9);
            int when = x.together(0) == NONE ? 61 : x.together(0);
            if (when > latest) {
                worst = village;
                latest = when;
            }
        }
        is("23: which", make(0).worst(0), worst);
        is("23: when", make(0).worst(1), latest == 61 ? NONE : latest);
    }

    // ---- minutes as they are now

    private void fix() {
        for (int g = 1; g <= 12; g++) {
            NineNoons x = make(0);
            int total = x.fix(g, -1);
            int before = x.count(2);
            int sum = 0;
            int[] by = new int[villages];
            for (int village = 0; village < villages && total != NONE; village++) {
                by[village] = x.fix(g, village) - 2;
                sum += Math.abs(by[village]);
            }
            if (total == NONE) {
                due.isTrue("19: none, but they are apart now: " + g + " of " + text, before < g);
                continue;
            }
            is("19: how many in all, for " + g, total, sum);
            is("19: 0 if they are apart now, for " + g, total == 0 ? 1 : 0, before >= g ? 1 : 0);
            for (int village = 0; village < villages; village++) {
                x.set(village, Math.floorMod(x.of(village, 1) + by[village], 60));
            }
            due.isTrue("19: apart then, for " + g + " of " + text, x.count(2) >= g);
            is("19: nothing more to SET, for " + g, x.fix(g, -1), 0);
        }
    }

    private void free() {
        int g = 1 + random.nextInt(12);
        NineNoons x = make(0);
        long set = 0;
        for (int minute = 0; minute < 60; minute++) {
            boolean apart = true;
            for (int village = 0; village < villages; village++) {
                int between = Math.abs(x.of(village, 1) - minute);
                apart &= between >= g && 60 - between >= g;
            }
            set |= apart ? 1L << minute : 0;
        }
        is("20: the set, for " + g, make(0).free(g, 0), set);
        is("20: how many, for " + g, make(0).free(g, 1), Long.bitCount(set));
        is("20: the least, for " + g, make(0).free(g, 2), set == 0 ? NONE : Long.numberOfTrailingZeros(set));
        if (villages < 6) {
            for (int minute = 0; minute < 60; minute += 7) {
                NineNoons more = make(0);
                boolean near = more.count(2) < g;
                more.village(0, minute, 0);
                due.isTrue("20: a new one at " + minute + ", for " + g + " of " + text,
                    near || more.count(2) >= g == ((set >> minute & 1) != 0));
            }
        }
    }

    /** The odds by trying every way in which the fog can take the villages. */
    private void fog() {
        int c = random.nextInt(11);
        long apart = 0;
        long all = 1;
        for (int village = 0; village < villages; village++) {
            all *= 10;
        }
        NineNoons x = make(0);
        for (int late = 0; late < 1 << villages; late++) {
            long ways = 1;
            Set<Integer> minutes = new HashSet<>();
            for (int village = 0; village < villages; village++) {
                int later = late >> village & 1;
                ways *= later == 1 ? c : 10 - c;
                minutes.add((x.of(village, 1) + later) % 60);
            }
            apart += minutes.size() == villages ? ways : 0;
        }
        long above = make(0).fog(c, 0);
        long below = make(0).fog(c, 1);
        is("24: the odds by " + c, above * all, below * apart);
        due.isTrue("24: lowest terms by " + c + " of " + text, java.math.BigInteger.valueOf(above)
            .gcd(java.math.BigInteger.valueOf(below)).intValue() == 1);
    }

    // ---- the carrier

    private void hear() {
        int from = random.nextInt(villages);
        int minute = random.nextInt(60);
        int w = 1 + random.nextInt(9);
        NineNoons x = make(0);
        int least = x.hear(from, minute, w, -1);
        String call = "21: hear " + from + " " + minute + " " + w;
        int time = minute;
        int mile = x.of(from, 3);
        int seen = 0;
        for (int k = 0; k < villages; k++) {
            int village = x.hear(from, minute, w, k);
            seen |= 1 << village;
            time += Math.abs(x.of(village, 3) - mile) * w;
            mile = x.of(village, 3);
            time += Math.floorMod(x.of(village, 1) - time, 60);
        }
        is(call + ": all of them", seen, (1 << villages) - 1);
        is(call + ": by this order", time - minute, least);
        // Walking minute by minute costs too much on a long road.
        if (villages <= 4) {
            is(call + ": not sooner by any walk", least, soonestWalk(x, from, minute, w));
        }
    }

    /** Goes on by a minute at a time, everywhere at once: a step back, a step on, or none. */
    private int soonestWalk(NineNoons x, int from, int minute, int w) {
        int all = (1 << villages) - 1;
        int places = 40 * w + 1;
        boolean[][] there = new boolean[places][all + 1];
        int[] place = new int[villages];
        int[] rings = new int[villages];
        for (int village = 0; village < villages; village++) {
            place[village] = x.of(village, 3) * w;
            rings[village] = x.of(village, 1);
        }
        there[place[from]][0] = true;
        for (int time = minute; ; time++) {
            hearAt(there, place, rings, time % 60);
            for (boolean[] heard : there) {
                if (heard[all]) {
                    return time - minute;
                }
            }
            there = steps(there);
        }
    }

    private static void hearAt(boolean[][] there, int[] place, int[] rings, int minute) {
        for (int village = 0; village < place.length; village++) {
            boolean[] heard = there[place[village]];
            for (int set = 0; set < heard.length && rings[village] == minute; set++) {
                if (heard[set] && (set >> village & 1) == 0) {
                    heard[set] = false;
                    heard[set | 1 << village] = true;
                }
            }
        }
    }

    private static boolean[][] steps(boolean[][] there) {
        boolean[][] next = new boolean[there.length][there[0].length];
        for (int place = 0; place < there.length; place++) {
            for (int from = Math.max(0, place - 1); from <= Math.min(there.length - 1, place + 1); from++) {
                for (int set = 0; set < next[place].length; set++) {
                    next[place][set] |= there[from][set];
                }
            }
        }
        return next;
    }

    // ---- sheets

    /** A film of a sexton is heard as of his own kind and drift, and of those alone that ring so. */
    private void heardOfFilm() {
        int village = random.nextInt(villages);
        int n = 1 + random.nextInt(8);
        int start = random.nextInt(2);
        NineNoons x = make(start);
        x.sheet(0, 0, 9);
        is("28: film", x.film(village, n, 0, 0, 1), n);
        int kinds = x.heard(village, 0, 0, 1, n, 0);
        int drifts = x.heard(village, 0, 0, 1, n, 1);
        due.isTrue("27: his own kind of " + text, (kinds >> x.of(village, 0) & 1) == 1);
        // Of another kind from the start: on a later day the minutes would be others.
        for (int kind = 0; kind < 5 && start == 0; kind++) {
            is("27: kind " + kind + " by " + n, kinds >> kind & 1, ringsLike(x, Due.of(withKind(village, kind)), village, n));
        }
        for (int drift = 0; drift <= 18; drift++) {
            NineNoons like = make(start);
            like.tune(village, drift);
            is("27: drift " + (drift - 9) + " by " + n, drifts >> drift & 1, ringsLike(x, like, village, n));
        }
    }

    private String withKind(int village, int kind) {
        String[] told = text.split(",");
        told[village] = "pshfc".charAt(kind) + told[village].substring(1);
        return String.join(",", told);
    }

    private static int ringsLike(NineNoons x, NineNoons like, int village, int n) {
        for (int day = 1; day <= n; day++) {
            if (like.ahead(village, day) != x.ahead(village, day)) {
                return 0;
            }
        }
        return 1;
    }
}
