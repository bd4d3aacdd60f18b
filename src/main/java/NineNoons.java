/**
 * A valley whose villages ring their noons apart: who rings when, who will ring together,
 * how to keep them apart, and rows ("sheets") of what has been heard.
 * A refused call answers a number below 0 and changes nothing.
 */
public final class NineNoons {
    public static final int BAD = -1, NOT = -2, FULL = -3, NONE = -4, NULL = -11, CAST = -12, INDEX = -13, SIZE = -14;

    private static final int HOUR = 60;
    /** The minutes of an hour as a set. */
    private static final long ALL_MINUTES = (1L << HOUR) - 1;
    private static final int WIDEST_GAP = 30;
    private static final int MOST_VILLAGES = 6;
    private static final int MOST_MILES = 40;
    private static final int MOST_DRIFT = 9;
    private static final int LAST_DAY = 9999;
    private static final int MOST_DAYS = 40;
    private static final int MOST_FORETOLD = 60;
    /** Stands for "never" where days to come are compared: later than any that is foretold. */
    private static final int NOT_FORETOLD = MOST_FORETOLD + 1;
    private static final int MOST_AGAIN = 240;
    private static final int MOST_UNDONE = 8;
    private static final int MOST_FIX_GAP = 12;
    private static final int MOST_FIX_SHIFT = 2;
    private static final int MOST_MILE_MINUTES = 9;
    private static final int ODDS = 10;
    private static final int SHEETS = 4;
    private static final int LANES = 4;
    private static final int MOST_ITEMS = 24;
    private static final int MOST_HEARD = 8;
    private static final int MOST_LETTERS = 60;
    private static final int FIRST_FAULT = -20;
    private static final int SHIFT_TOLD_FROM = 30;
    private static final int LOWEST_31_BITS = 0x7fffffff;
    /** Later than a carrier can ever be: six villages, 40 miles apart, take him under 3000 minutes. */
    private static final int NEVER = 1000000;

    private static final int PLAIN = 0;
    private static final int SLOW = 1;
    private static final int HEARER = 2;
    private static final int FOGGY = 3;
    private static final int COUSIN = 4;
    private static final int KINDS = 5;
    private static final int HEARING_GAP = 3;
    private static final int COUSIN_MILES = 10;

    private final Valley now = new Valley();
    private final History history = new History();
    private final Valley keptValley = new Valley();
    private final History keptHistory = new History();
    private boolean imageKept;
    /** What is foretold or read from the tape goes on here, so that nothing is changed. */
    private final Valley trial = new Valley();
    private final Setter setter = new Setter();
    private final Carrier carrier = new Carrier();
    private final Tape tape = new Tape();
    private final Sheet[] sheets = {new Sheet(), new Sheet(), new Sheet(), new Sheet()};

    public NineNoons() {
    }

    // ---- 1 villages

    public int village(int kind, int minute, int drift) {
        if (!within(kind, 0, KINDS - 1) || !isMinute(minute) || !within(drift, -MOST_DRIFT, MOST_DRIFT)) {
            return BAD;
        }
        if (now.villages >= MOST_VILLAGES) {
            return FULL;
        }
        now.build(kind, minute, drift, 0);
        history.forget();
        return now.villages - 1;
    }

    public int of(int village, int what) {
        if (!now.has(village)) {
            return BAD;
        }
        switch (what) {
            case 0:
                return now.kinds[village];
            case 1:
                return now.minutes[village];
            case 2:
                return now.drifts[village] + MOST_DRIFT;
            case 3:
                return now.miles[village];
            case 4:
                return now.laterBy(village) + SHIFT_TOLD_FROM;
            case 5:
                return now.ringersWith(village);
            default:
                return BAD;
        }
    }

    public int gap(int village, int other) {
        return now.hasBoth(village, other) ? now.gapBetween(village, other) : BAD;
    }

    public int type(int letter) {
        if (!within(letter, ' ', '~')) {
            return BAD;
        }
        return tape.put((char) letter) ? tape.length : FULL;
    }

    public int valley() {
        trial.becomeLike(now);
        int fault = tape.readInto(trial);
        tape.length = 0;
        if (fault != 0) {
            return fault;
        }
        now.becomeLike(trial);
        history.forget();
        return now.villages;
    }

    public int count(int what) {
        switch (what) {
            case 0:
                return now.villages;
            case 1:
                return now.day;
            case 2:
                return now.leastGap();
            case 3:
                return now.ringers();
            case 4:
                return now.sumOf(now.minutes);
            case 5:
                return now.sumOf(now.miles);
            case 6:
                return history.known;
            default:
                return BAD;
        }
    }

    // ---- what is done

    public int days(int n) {
        return passDays(n, false);
    }

    public int set(int village, int minute) {
        if (!now.has(village) || !isMinute(minute)) {
            return BAD;
        }
        int before = now.minutes[village];
        if (before == minute) {
            return NOT;
        }
        history.remember(now);
        now.minutes[village] = minute;
        return before;
    }

    public int move(int village, int miles) {
        if (!now.has(village) || !within(miles, 0, MOST_MILES)) {
            return BAD;
        }
        int before = now.miles[village];
        if (before == miles) {
            return NOT;
        }
        history.remember(now);
        now.miles[village] = miles;
        return before;
    }

    public int tune(int village, int drift) {
        if (!now.has(village) || !within(drift, 0, 2 * MOST_DRIFT)) {
            return BAD;
        }
        int before = now.drifts[village] + MOST_DRIFT;
        if (before == drift) {
            return NOT;
        }
        history.remember(now);
        now.drifts[village] = drift - MOST_DRIFT;
        return before;
    }

    public int storm(int n) {
        return passDays(n, true);
    }

    public int undo() {
        return history.takeBack(now) ? history.known : NONE;
    }

    public int seed(int v) {
        if (v < 0) {
            return BAD;
        }
        int before = now.draw;
        now.draw = v;
        return before;
    }

    private int passDays(int n, boolean stormy) {
        if (!within(n, 1, MOST_DAYS)) {
            return BAD;
        }
        if (now.day + n > LAST_DAY) {
            return FULL;
        }
        for (int i = 0; i < n; i++) {
            history.remember(now);
            if (stormy) {
                now.drawRinger();
            }
            now.passDay();
        }
        return now.leastGap();
    }

    // ---- 2 foretold

    public int ahead(int village, int n) {
        if (!now.has(village) || !within(n, 0, MOST_FORETOLD)) {
            return BAD;
        }
        foretell(n);
        return trial.minutes[village];
    }

    public int near(int n) {
        if (!within(n, 0, MOST_FORETOLD)) {
            return BAD;
        }
        foretell(n);
        return trial.leastGap();
    }

    public int meet(int village, int other) {
        if (!now.hasBoth(village, other)) {
            return BAD;
        }
        trial.becomeLike(now);
        for (int n = 0; n <= MOST_FORETOLD; n++) {
            if (trial.gapBetween(village, other) == 0) {
                return n;
            }
            trial.passDay();
        }
        return NONE;
    }

    public int together(int what) {
        if (!within(what, 0, 1)) {
            return BAD;
        }
        trial.becomeLike(now);
        int first = trial.passDaysUntilTogether();
        if (first == NOT_FORETOLD) {
            return what == 0 ? NONE : 0;
        }
        return what == 0 ? first : trial.ringers();
    }

    public int fix(int g, int village) {
        if (!within(g, 1, MOST_FIX_GAP) || (village != -1 && !now.has(village))) {
            return BAD;
        }
        int total = setter.leastTotal(now, g);
        if (total == NONE || village == -1) {
            return total;
        }
        return setter.bestShifts[village] + MOST_FIX_SHIFT;
    }

    public long free(int g, int what) {
        if (!within(g, 1, WIDEST_GAP) || !within(what, 0, 2)) {
            return BAD;
        }
        long minutes = now.freeMinutes(g);
        if (what == 0) {
            return minutes;
        }
        if (what == 1) {
            return Long.bitCount(minutes);
        }
        return minutes == 0 ? NONE : Long.numberOfTrailingZeros(minutes);
    }

    public int hear(int village, int minute, int w, int k) {
        if (!now.has(village) || !isMinute(minute) || !within(w, 1, MOST_MILE_MINUTES) || k < -1) {
            return BAD;
        }
        if (k >= now.villages) {
            return NONE;
        }
        int minutes = carrier.soonest(now, village, minute, w);
        return k == -1 ? minutes : carrier.bestOrder[k];
    }

    public int again() {
        trial.becomeLike(now);
        for (int n = 1; n <= MOST_AGAIN; n++) {
            trial.passDay();
            if (n % 2 == 0 && trial.ringsLike(now)) {
                return n;
            }
        }
        return NONE;
    }

    public int worst(int what) {
        if (!within(what, 0, 1)) {
            return BAD;
        }
        int worst = NONE;
        int latest = NONE;
        for (int village = 0; village < now.villages; village++) {
            int first = togetherWithoutDriftOf(village);
            if (first > latest) {
                latest = first;
                worst = village;
            }
        }
        if (what == 0) {
            return worst;
        }
        return latest == NOT_FORETOLD ? NONE : latest;
    }

    public int fog(int c, int what) {
        if (!within(c, 0, ODDS) || !within(what, 0, 1)) {
            return BAD;
        }
        int above = fogWaysApart(c);
        int below = 1;
        for (int i = 0; i < now.villages; i++) {
            below *= ODDS;
        }
        int divisor = Math.max(1, greatestDivisor(above, below));
        return what == 0 ? above / divisor : below / divisor;
    }

    public int image() {
        keptValley.becomeLike(now);
        keptHistory.becomeLike(history);
        imageKept = true;
        return 1;
    }

    public int restore() {
        if (!imageKept) {
            return NONE;
        }
        now.becomeLike(keptValley);
        history.becomeLike(keptHistory);
        return 1;
    }

    private void foretell(int n) {
        trial.becomeLike(now);
        for (int i = 0; i < n; i++) {
            trial.passDay();
        }
    }

    private int togetherWithoutDriftOf(int village) {
        trial.becomeLike(now);
        trial.drifts[village] = 0;
        return trial.passDaysUntilTogether();
    }

    /** Of ODDS to the power of how many villages there are: in how many ways none ring together. */
    private int fogWaysApart(int c) {
        int ways = 0;
        int sets = 1 << now.villages;
        for (int late = 0; late < sets; late++) {
            if (now.isApartWith(late)) {
                int waysOfSet = 1;
                for (int i = 0; i < now.villages; i++) {
                    waysOfSet *= isIn(late, i) ? c : ODDS - c;
                }
                ways += waysOfSet;
            }
        }
        return ways;
    }

    // ---- 3 sheets

    public int heard(int village, int sheet, int lane, int i, int n, int what) {
        if (!now.has(village) || !isSheetAndLane(sheet, lane) || !within(n, 1, MOST_HEARD) || !within(what, 0, 1)) {
            return BAD;
        }
        int refusal = sheets[sheet].refusal(lane, i, n);
        if (refusal != 0) {
            return refusal;
        }
        return what == 0 ? kindsHeard(village, sheets[sheet], i, n) : driftsHeard(village, sheets[sheet], i, n);
    }

    public int film(int village, int n, int sheet, int lane, int i) {
        if (!now.has(village) || !within(n, 1, MOST_ITEMS) || !isSheetAndLane(sheet, lane)) {
            return BAD;
        }
        int refusal = sheets[sheet].refusal(lane, i, n);
        if (refusal != 0) {
            return refusal;
        }
        trial.becomeLike(now);
        for (int day = 0; day < n; day++) {
            trial.passDay();
            sheets[sheet].put(i + day, trial.minutes[village]);
        }
        return n;
    }

    public int sheet(int sheet, int lane, int n) {
        if (!isSheetAndLane(sheet, lane) || n > MOST_ITEMS) {
            return BAD;
        }
        if (n < 0) {
            return SIZE;
        }
        sheets[sheet].renew(lane, n);
        return n;
    }

    public int drop(int sheet) {
        if (!within(sheet, 0, SHEETS - 1)) {
            return BAD;
        }
        if (sheets[sheet].isMissing()) {
            return NULL;
        }
        int length = sheets[sheet].length;
        sheets[sheet].remove();
        return length;
    }

    public int item(int sheet, int lane, int i, long v) {
        if (!isSheetAndLane(sheet, lane)) {
            return BAD;
        }
        int refusal = sheets[sheet].refusal(lane, i, 1);
        if (refusal != 0) {
            return refusal;
        }
        sheets[sheet].put(i, v);
        return 1;
    }

    public int copy(int from, int i, int to, int j, int n) {
        if (!within(from, 0, SHEETS - 1) || !within(to, 0, SHEETS - 1)) {
            return BAD;
        }
        Sheet source = sheets[from];
        Sheet target = sheets[to];
        if (source.isMissing() || target.isMissing()) {
            return NULL;
        }
        if (source.lane != target.lane) {
            return CAST;
        }
        if (!source.reaches(i, n) || !target.reaches(j, n)) {
            return INDEX;
        }
        System.arraycopy(source.items, i, target.items, j, n);
        return n;
    }

    private int kindsHeard(int village, Sheet sheet, int i, int n) {
        int kinds = 0;
        for (int kind = 0; kind < KINDS; kind++) {
            trial.becomeLike(now);
            trial.kinds[village] = kind;
            if (trialRingsAs(village, sheet, i, n)) {
                kinds |= 1 << kind;
            }
        }
        return kinds;
    }

    private int driftsHeard(int village, Sheet sheet, int i, int n) {
        int drifts = 0;
        for (int drift = -MOST_DRIFT; drift <= MOST_DRIFT; drift++) {
            trial.becomeLike(now);
            trial.drifts[village] = drift;
            if (trialRingsAs(village, sheet, i, n)) {
                drifts |= 1 << (drift + MOST_DRIFT);
            }
        }
        return drifts;
    }

    private boolean trialRingsAs(int village, Sheet sheet, int i, int n) {
        for (int day = 0; day < n; day++) {
            trial.passDay();
            if (sheet.items[i + day] != trial.minutes[village]) {
                return false;
            }
        }
        return true;
    }

    // ---- numbers

    private static boolean within(int number, int least, int most) {
        return number >= least && number <= most;
    }

    private static boolean isMinute(int number) {
        return within(number, 0, HOUR - 1);
    }

    private static boolean isSheetAndLane(int sheet, int lane) {
        return within(sheet, 0, SHEETS - 1) && within(lane, 0, LANES - 1);
    }

    private static boolean isIn(int set, int village) {
        return (set >> village & 1) != 0;
    }

    private static int roundTheHour(int minute) {
        return Math.floorMod(minute, HOUR);
    }

    private static int shorterWay(int minute, int other) {
        int minutes = minute < other ? other - minute : minute - other;
        return minutes <= WIDEST_GAP ? minutes : HOUR - minutes;
    }

    /** The minutes, as a set, of which the gap to a minute is less than g (1 .. 30). */
    private static long minutesNear(int minute, int g) {
        long run = (1L << (2 * g - 1)) - 1;
        int first = roundTheHour(minute - g + 1);
        return (run << first | run >>> (HOUR - first)) & ALL_MINUTES;
    }

    private static int greatestDivisor(int number, int other) {
        int a = number;
        int b = other;
        // Far fewer steps are needed below 2 to the 31: the bound only shows that there is an end.
        for (int step = 0; step < 64 && b != 0; step++) {
            int rest = a % b;
            a = b;
            b = rest;
        }
        return a;
    }

    /** The villages, the day and the draw: all that is changed by a day, and undone. */
    private static final class Valley {
        final int[] kinds = new int[MOST_VILLAGES];
        final int[] minutes = new int[MOST_VILLAGES];
        final int[] drifts = new int[MOST_VILLAGES];
        final int[] miles = new int[MOST_VILLAGES];
        /** Shifts of the day that passes: all are found before any minute changes. */
        final int[] shifts = new int[MOST_VILLAGES];
        int villages = 0;
        int day = 0;
        int draw = 1;

        void becomeLike(Valley other) {
            System.arraycopy(other.kinds, 0, kinds, 0, MOST_VILLAGES);
            System.arraycopy(other.minutes, 0, minutes, 0, MOST_VILLAGES);
            System.arraycopy(other.drifts, 0, drifts, 0, MOST_VILLAGES);
            System.arraycopy(other.miles, 0, miles, 0, MOST_VILLAGES);
            villages = other.villages;
            day = other.day;
            draw = other.draw;
        }

        void clear() {
            villages = 0;
            day = 0;
        }

        void build(int kind, int minute, int drift, int mile) {
            if (villages < MOST_VILLAGES) {
                kinds[villages] = kind;
                minutes[villages] = minute;
                drifts[villages] = drift;
                miles[villages] = mile;
                villages++;
            }
        }

        boolean has(int village) {
            return village >= 0 && village < villages;
        }

        boolean hasBoth(int village, int other) {
            return has(village) && has(other) && village != other;
        }

        int gapBetween(int village, int other) {
            return shorterWay(minutes[village], minutes[other]);
        }

        int leastGap() {
            int least = WIDEST_GAP;
            for (int village = 1; village < villages; village++) {
                for (int other = 0; other < village; other++) {
                    least = Math.min(least, gapBetween(village, other));
                }
            }
            return least;
        }

        int ringersWith(int village) {
            int set = 0;
            for (int other = 0; other < villages; other++) {
                if (other != village && minutes[other] == minutes[village]) {
                    set |= 1 << other;
                }
            }
            return set;
        }

        int ringers() {
            int set = 0;
            for (int village = 0; village < villages; village++) {
                set |= ringersWith(village);
            }
            return set;
        }

        int sumOf(int[] row) {
            int sum = 0;
            for (int village = 0; village < villages; village++) {
                sum += row[village];
            }
            return sum;
        }

        /** The minutes, as a set, that are not near to any village's. */
        long freeMinutes(int g) {
            long free = ALL_MINUTES;
            for (int village = 0; village < villages; village++) {
                free &= ~minutesNear(minutes[village], g);
            }
            return free;
        }

        /** Whether none ring together, if the villages of a set ring 1 minute later. */
        boolean isApartWith(int late) {
            long taken = 0;
            for (int village = 0; village < villages; village++) {
                int minute = isIn(late, village) ? roundTheHour(minutes[village] + 1) : minutes[village];
                if ((taken >> minute & 1) != 0) {
                    return false;
                }
                taken |= 1L << minute;
            }
            return true;
        }

        boolean ringsLike(Valley other) {
            for (int village = 0; village < villages; village++) {
                if (minutes[village] != other.minutes[village]) {
                    return false;
                }
            }
            return true;
        }

        /** By how many minutes a village is later in this day. */
        int laterBy(int village) {
            switch (kinds[village]) {
                case SLOW:
                    return slowShift(village);
                case HEARER:
                    return hearerShift(village);
                case FOGGY:
                    return day % 2 == 0 ? slowShift(village) : -slowShift(village);
                case COUSIN:
                    return hearerShift(village) + (isByTheOneBefore(village) ? 1 : 0);
                case PLAIN:
                default:
                    return drifts[village];
            }
        }

        int slowShift(int village) {
            return drifts[village] / 2;
        }

        int hearerShift(int village) {
            for (int other = 0; other < villages; other++) {
                if (other != village && shorterWay(minutes[village], minutes[other]) <= HEARING_GAP) {
                    return 0;
                }
            }
            return drifts[village];
        }

        boolean isByTheOneBefore(int village) {
            int before = village == 0 ? villages - 1 : village - 1;
            return before != village && Math.abs(miles[village] - miles[before]) <= COUSIN_MILES;
        }

        void passDay() {
            for (int village = 0; village < villages; village++) {
                shifts[village] = laterBy(village);
            }
            for (int village = 0; village < villages; village++) {
                minutes[village] = roundTheHour(minutes[village] + shifts[village]);
            }
            day++;
        }

        /** What a storm does ahead of a day. */
        void drawRinger() {
            draw = (draw * 1103515245 + 12345) & LOWEST_31_BITS;
            if (villages > 0) {
                int village = draw / 65536 % villages;
                minutes[village] = roundTheHour(minutes[village] + draw / 128 % 5);
            }
        }

        /** Passes days until two ring together: how many, or NOT_FORETOLD. */
        int passDaysUntilTogether() {
            for (int n = 0; n <= MOST_FORETOLD; n++) {
                if (ringers() != 0) {
                    return n;
                }
                passDay();
            }
            return NOT_FORETOLD;
        }
    }

    /** Valleys as they were ahead of the latest changes, in a ring: the oldest makes room. */
    private static final class History {
        final Valley[] past = {
            new Valley(), new Valley(), new Valley(), new Valley(),
            new Valley(), new Valley(), new Valley(), new Valley()};
        int next = 0;
        int known = 0;

        void forget() {
            known = 0;
        }

        void remember(Valley valley) {
            past[next].becomeLike(valley);
            next = (next + 1) % MOST_UNDONE;
            known = Math.min(known + 1, MOST_UNDONE);
        }

        boolean takeBack(Valley valley) {
            if (known == 0) {
                return false;
            }
            next = (next + MOST_UNDONE - 1) % MOST_UNDONE;
            known--;
            valley.becomeLike(past[next]);
            return true;
        }

        void becomeLike(History other) {
            for (int i = 0; i < MOST_UNDONE; i++) {
                past[i].becomeLike(other.past[i]);
            }
            next = other.next;
            known = other.known;
        }
    }

    /** Finds the least setting by which none are near: tries ways from the first on, and keeps one only if it is less. */
    private static final class Setter {
        static final int NO_TOTAL = MOST_FIX_SHIFT * MOST_VILLAGES + 1;

        final int[] shifts = new int[MOST_VILLAGES];
        final int[] bestShifts = new int[MOST_VILLAGES];
        int bestTotal = NO_TOTAL;

        int leastTotal(Valley valley, int g) {
            bestTotal = NO_TOTAL;
            settleRest(valley, g, 0, ALL_MINUTES, 0);
            return bestTotal == NO_TOTAL ? NONE : bestTotal;
        }

        /** Sets a village and all behind it at minutes that are free; those ahead of it are set, by a total. */
        private void settleRest(Valley valley, int g, int village, long free, int total) {
            if (village >= valley.villages) {
                bestTotal = total;
                System.arraycopy(shifts, 0, bestShifts, 0, MOST_VILLAGES);
                return;
            }
            for (int shift = -MOST_FIX_SHIFT; shift <= MOST_FIX_SHIFT; shift++) {
                int totalThen = total + Math.abs(shift);
                if (totalThen < bestTotal) {
                    settleBy(valley, g, village, shift, free, totalThen);
                }
            }
        }

        private void settleBy(Valley valley, int g, int village, int shift, long free, int totalThen) {
            int minute = roundTheHour(valley.minutes[village] + shift);
            if ((free >> minute & 1) != 0) {
                shifts[village] = shift;
                settleRest(valley, g, village + 1, free & ~minutesNear(minute, g), totalThen);
            }
        }
    }

    /** Finds how soon a carrier can hear all: tries orders by numbers, and keeps one only if it is sooner. */
    private static final class Carrier {
        final int[] order = new int[MOST_VILLAGES];
        final int[] bestOrder = new int[MOST_VILLAGES];
        int bestTime = NEVER;
        int minutesAMile = 1;

        int soonest(Valley valley, int village, int minute, int w) {
            bestTime = NEVER;
            minutesAMile = w;
            hearRest(valley, valley.miles[village], minute, 0, 0);
            return bestTime - minute;
        }

        /** Hears all that is not done, from a place and a time on, as the k-th and those behind it. */
        private void hearRest(Valley valley, int mile, int time, int done, int k) {
            if (k >= valley.villages) {
                bestTime = time;
                System.arraycopy(order, 0, bestOrder, 0, MOST_VILLAGES);
                return;
            }
            for (int village = 0; village < valley.villages; village++) {
                if (!isIn(done, village)) {
                    int arrival = time + Math.abs(valley.miles[village] - mile) * minutesAMile;
                    hearFirst(valley, village, arrival, done, k);
                }
            }
        }

        /** To hear one as soon as it rings never makes the rest later, so no other waiting is tried. */
        private void hearFirst(Valley valley, int village, int arrival, int done, int k) {
            int ringing = arrival + roundTheHour(valley.minutes[village] - arrival);
            if (ringing < bestTime) {
                order[k] = village;
                hearRest(valley, valley.miles[village], ringing, done | 1 << village, k + 1);
            }
        }
    }

    /** Letters typed, and how a valley is read from them. */
    private static final class Tape {
        /** No letter of the tape: stands behind the last one. */
        static final char END = 0;

        final char[] letters = new char[MOST_LETTERS];
        int length = 0;
        int place = 0;
        int fault = 0;

        boolean put(char letter) {
            if (length >= MOST_LETTERS) {
                return false;
            }
            letters[length] = letter;
            length++;
            return true;
        }

        /** Reads all letters as a valley in place of what is there: 0, or the fault. */
        int readInto(Valley draft) {
            place = 0;
            fault = 0;
            draft.clear();
            boolean more = true;
            for (int village = 1; more && village <= MOST_VILLAGES; village++) {
                readVillage(draft);
                more = village < MOST_VILLAGES && takes(',');
            }
            if (fault == 0 && comingLetter() != END) {
                faultAt(place);
            }
            return fault;
        }

        private void readVillage(Valley draft) {
            int kind = readKind();
            int minute = readNumber(HOUR - 1);
            int drift = readDrift();
            int mile = takes('@') ? readNumber(MOST_MILES) : 0;
            if (fault == 0) {
                draft.build(kind, minute, drift, mile);
            }
        }

        private int readKind() {
            if (takes('p')) {
                return PLAIN;
            }
            if (takes('s')) {
                return SLOW;
            }
            if (takes('h')) {
                return HEARER;
            }
            if (takes('f')) {
                return FOGGY;
            }
            if (takes('c')) {
                return COUSIN;
            }
            faultAt(place);
            return PLAIN;
        }

        private int readDrift() {
            int sign = 1;
            if (takes('-')) {
                sign = -1;
            } else if (!takes('+')) {
                faultAt(place);
            }
            if (!isDigit(comingLetter())) {
                faultAt(place);
            }
            return sign * takeDigit();
        }

        private int readNumber(int most) {
            if (!isDigit(comingLetter())) {
                faultAt(place);
            }
            int first = place;
            int number = takeDigit();
            if (place < length && isDigit(letters[place])) {
                number = number * 10 + takeDigit();
            }
            if (number > most) {
                faultAt(first);
            }
            return number;
        }

        /** The digit that is there; without one, or behind a fault, nothing is taken. */
        private int takeDigit() {
            if (fault != 0 || place >= length || !isDigit(letters[place])) {
                return 0;
            }
            int digit = letters[place] - '0';
            place++;
            return digit;
        }

        private boolean takes(char letter) {
            if (fault != 0 || comingLetter() != letter) {
                return false;
            }
            place++;
            return true;
        }

        /** The letter behind blanks, which is not taken yet. */
        private char comingLetter() {
            while (place < length && letters[place] == ' ') {
                place++;
            }
            return place < length ? letters[place] : END;
        }

        /** Only the first fault counts. */
        private void faultAt(int where) {
            if (fault == 0) {
                fault = FIRST_FAULT - where;
            }
        }

        private static boolean isDigit(char letter) {
            return letter >= '0' && letter <= '9';
        }
    }

    /** A row of a lane, or nothing. */
    private static final class Sheet {
        static final int NO_LANE = -1;

        final long[] items = new long[MOST_ITEMS];
        int lane = NO_LANE;
        int length = 0;

        void renew(int newLane, int newLength) {
            for (int i = 0; i < MOST_ITEMS; i++) {
                items[i] = 0;
            }
            lane = newLane;
            length = newLength;
        }

        void remove() {
            lane = NO_LANE;
            length = 0;
        }

        boolean isMissing() {
            return lane == NO_LANE;
        }

        boolean reaches(int i, int n) {
            return i >= 0 && n >= 0 && n <= length && i <= length - n;
        }

        /** Why n items from i on can't be taken as of a lane; 0: they can. */
        int refusal(int asLane, int i, int n) {
            if (isMissing()) {
                return NULL;
            }
            if (lane != asLane) {
                return CAST;
            }
            return reaches(i, n) ? 0 : INDEX;
        }

        void put(int i, long v) {
            switch (lane) {
                case 0:
                    items[i] = (byte) v;
                    break;
                case 1:
                    items[i] = (short) v;
                    break;
                case 2:
                    items[i] = (int) v;
                    break;
                default:
                    items[i] = v;
            }
        }
    }
}
