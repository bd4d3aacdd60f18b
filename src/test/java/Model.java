import java.lang.reflect.Array;
import java.util.ArrayDeque;
import java.util.ArrayList;
import java.util.Deque;
import java.util.List;
import java.util.function.Predicate;

/**
 * The document once more, as plainly as can be and with the Java library, to compare answers with:
 * states are never changed but made anew, all ways are tried, and sheets are rows at which the machine throws.
 */
final class Model {
    record Village(int kind, int minute, int drift, int miles) { }

    record State(List<Village> villages, int day, long draw) { }

    record Image(State state, List<State> past) { }

    private State state = new State(List.of(), 0, 1);
    private final Deque<State> past = new ArrayDeque<>();
    private Image image = null;
    private String tape = "";
    private final Object[] sheets = new Object[4];

    // ---- what a day does

    static int gap(int minute, int other) {
        int later = Math.floorMod(minute - other, 60);
        return later <= 30 ? later : 60 - later;
    }

    static int later(State s, int i) {
        Village v = s.villages().get(i);
        int n = s.villages().size();
        boolean hears = false;
        for (int j = 0; j < n; j++) {
            hears |= j != i && gap(v.minute(), s.villages().get(j).minute()) < 4;
        }
        int half = v.drift() < 0 ? -(-v.drift() / 2) : v.drift() / 2;
        int hearer = hears ? 0 : v.drift();
        if (v.kind() == 0) {
            return v.drift();
        } else if (v.kind() == 1) {
            return half;
        } else if (v.kind() == 2) {
            return hearer;
        } else if (v.kind() == 3) {
            return s.day() % 2 == 1 ? -half : half;
        }
        int away = s.villages().get((i + n - 1) % n).miles() - v.miles();
        return n > 1 && away >= -10 && away <= 10 ? hearer + 1 : hearer;
    }

    static State nextDay(State s) {
        List<Village> next = new ArrayList<>();
        for (int i = 0; i < s.villages().size(); i++) {
            Village v = s.villages().get(i);
            next.add(new Village(v.kind(), (v.minute() + later(s, i) + 60) % 60, v.drift(), v.miles()));
        }
        return new State(next, s.day() + 1, s.draw());
    }

    static State behind(State s, int n) {
        return n == 0 ? s : nextDay(behind(s, n - 1));
    }

    static State with(State s, int i, Village v) {
        List<Village> next = new ArrayList<>(s.villages());
        next.set(i, v);
        return new State(next, s.day(), s.draw());
    }

    static int leastGap(State s) {
        int least = 30;
        for (int i = 0; i < s.villages().size(); i++) {
            for (int j = i + 1; j < s.villages().size(); j++) {
                least = Math.min(least, gap(s.villages().get(i).minute(), s.villages().get(j).minute()));
            }
        }
        return least;
    }

    static int ringers(State s) {
        int set = 0;
        for (int i = 0; i < s.villages().size(); i++) {
            for (int j = 0; j < s.villages().size(); j++) {
                if (i != j && s.villages().get(i).minute() == s.villages().get(j).minute()) {
                    set |= 1 << i;
                }
            }
        }
        return set;
    }

    static int first(State s, Predicate<State> told) {
        State then = s;
        for (int n = 0; n <= 60; n++) {
            if (told.test(then)) {
                return n;
            }
            then = nextDay(then);
        }
        return -4;
    }

    static int together(State s) {
        return first(s, then -> ringers(then) != 0);
    }

    private boolean no(int village) {
        return village < 0 || village >= state.villages().size();
    }

    private int size() {
        return state.villages().size();
    }

    private Village at(int village) {
        return state.villages().get(village);
    }

    private void become(State next) {
        past.addLast(state);
        if (past.size() > 8) {
            past.removeFirst();
        }
        state = next;
    }

    // ---- 1 villages

    int village(int kind, int minute, int drift) {
        if (kind < 0 || kind > 4 || minute < 0 || minute > 59 || drift < -9 || drift > 9) {
            return -1;
        }
        if (size() == 6) {
            return -3;
        }
        List<Village> next = new ArrayList<>(state.villages());
        next.add(new Village(kind, minute, drift, 0));
        state = new State(next, state.day(), state.draw());
        past.clear();
        return size() - 1;
    }

    int of(int village, int what) {
        if (no(village) || what < 0 || what > 5) {
            return -1;
        }
        int with = 0;
        for (int i = 0; i < size(); i++) {
            with |= i != village && at(i).minute() == at(village).minute() ? 1 << i : 0;
        }
        return new int[] {at(village).kind(), at(village).minute(), at(village).drift() + 9, at(village).miles(),
            later(state, village) + 30, with}[what];
    }

    int gapOf(int village, int other) {
        return no(village) || no(other) || village == other ? -1 : gap(at(village).minute(), at(other).minute());
    }

    int type(int letter) {
        if (letter < 32 || letter > 126) {
            return -1;
        }
        if (tape.length() == 60) {
            return -3;
        }
        tape += (char) letter;
        return tape.length();
    }

    /** By what may follow what: each place of the grammar tells which letters it takes. */
    int valley() {
        String text = tape;
        tape = "";
        List<Village> read = new ArrayList<>();
        int[] part = new int[4];
        int sign = 1;
        int digits = 0;
        int start = 0;
        // 0 kind, 1 minute, 2 more of minute or sign, 3 drift, 4 behind drift, 5 miles, 6 more of miles
        int next = 0;
        for (int place = 0; place <= text.length(); place++) {
            char c = place < text.length() ? text.charAt(place) : 0;
            boolean digit = c >= '0' && c <= '9';
            int fault = -20 - place;
            if (c == ' ') {
                digits = next == 2 || next == 6 ? 2 : digits;
                continue;
            }
            if (next == 0) {
                part = new int[] {"pshfc".indexOf(c), 0, 0, 0};
                if (c == 0 || part[0] < 0) {
                    return fault;
                }
                next = 1;
            } else if ((next == 1 || next == 5) && digit) {
                part[next == 1 ? 1 : 3] = c - '0';
                digits = 1;
                start = place;
                next++;
            } else if ((next == 2 || next == 6) && digit && digits == 1) {
                int which = next == 2 ? 1 : 3;
                part[which] = part[which] * 10 + c - '0';
                digits = 2;
                if (part[which] > (next == 2 ? 59 : 40)) {
                    return -20 - start;
                }
            } else if (next == 2 && (c == '+' || c == '-')) {
                sign = c == '+' ? 1 : -1;
                next = 3;
            } else if (next == 3 && digit) {
                part[2] = sign * (c - '0');
                next = 4;
            } else if (next == 4 && c == '@') {
                next = 5;
            } else if ((next == 4 || next == 6) && (c == 0 || c == ',' && read.size() < 5)) {
                read.add(new Village(part[0], part[1], part[2], part[3]));
                next = 0;
                if (c == 0) {
                    break;
                }
            } else {
                return fault;
            }
        }
        state = new State(read, 0, state.draw());
        past.clear();
        return read.size();
    }

    int count(int what) {
        switch (what) {
            case 0: return size();
            case 1: return state.day();
            case 2: return leastGap(state);
            case 3: return ringers(state);
            case 4: return state.villages().stream().mapToInt(Village::minute).sum();
            case 5: return state.villages().stream().mapToInt(Village::miles).sum();
            case 6: return past.size();
            default: return -1;
        }
    }

    // ---- what is done

    int days(int n, boolean storm) {
        if (n < 1 || n > 40) {
            return -1;
        }
        if (state.day() > 9999 - n) {
            return -3;
        }
        for (int i = 0; i < n; i++) {
            become(nextDay(storm ? stormed(state) : state));
        }
        return leastGap(state);
    }

    static State stormed(State s) {
        long draw = (s.draw() * 1103515245L + 12345L) % 2147483648L;
        State next = new State(s.villages(), s.day(), draw);
        if (s.villages().isEmpty()) {
            return next;
        }
        int who = (int) (draw / 65536 % s.villages().size());
        Village v = s.villages().get(who);
        return with(next, who, new Village(v.kind(), (int) ((v.minute() + draw / 128 % 5) % 60), v.drift(), v.miles()));
    }

    int set(int village, int minute) {
        if (no(village) || minute < 0 || minute > 59) {
            return -1;
        }
        Village v = at(village);
        if (v.minute() == minute) {
            return -2;
        }
        become(with(state, village, new Village(v.kind(), minute, v.drift(), v.miles())));
        return v.minute();
    }

    int move(int village, int miles) {
        if (no(village) || miles < 0 || miles > 40) {
            return -1;
        }
        Village v = at(village);
        if (v.miles() == miles) {
            return -2;
        }
        become(with(state, village, new Village(v.kind(), v.minute(), v.drift(), miles)));
        return v.miles();
    }

    int tune(int village, int drift) {
        if (no(village) || drift < 0 || drift > 18) {
            return -1;
        }
        Village v = at(village);
        if (v.drift() + 9 == drift) {
            return -2;
        }
        become(with(state, village, new Village(v.kind(), v.minute(), drift - 9, v.miles())));
        return v.drift() + 9;
    }

    int undo() {
        if (past.isEmpty()) {
            return -4;
        }
        state = past.removeLast();
        return past.size();
    }

    int seed(int v) {
        if (v < 0) {
            return -1;
        }
        int before = (int) state.draw();
        state = new State(state.villages(), state.day(), v);
        return before;
    }

    // ---- 2 foretold

    int ahead(int village, int n) {
        return no(village) || n < 0 || n > 60 ? -1 : behind(state, n).villages().get(village).minute();
    }

    int near(int n) {
        return n < 0 || n > 60 ? -1 : leastGap(behind(state, n));
    }

    int meet(int village, int other) {
        if (no(village) || no(other) || village == other) {
            return -1;
        }
        return first(state, s -> s.villages().get(village).minute() == s.villages().get(other).minute());
    }

    int together(int what) {
        if (what != 0 && what != 1) {
            return -1;
        }
        int first = together(state);
        return what == 0 ? first : first < 0 ? 0 : ringers(behind(state, first));
    }

    /** Tries all settings there are, in their order. */
    int fix(int g, int village) {
        if (g < 1 || g > 12 || village < -1 || village >= size()) {
            return -1;
        }
        int all = (int) Math.round(Math.pow(5, size()));
        int least = 999;
        int[] best = null;
        for (int number = 0; number < all; number++) {
            int[] shifts = new int[size()];
            int rest = number;
            int total = 0;
            for (int i = size() - 1; i >= 0; i--) {
                shifts[i] = rest % 5 - 2;
                rest /= 5;
                total += Math.abs(shifts[i]);
            }
            if (total < least && apart(shifts, g)) {
                least = total;
                best = shifts;
            }
        }
        return best == null ? -4 : village < 0 ? least : best[village] + 2;
    }

    private boolean apart(int[] shifts, int g) {
        for (int i = 0; i < size(); i++) {
            for (int j = 0; j < i; j++) {
                if (gap(at(i).minute() + shifts[i], at(j).minute() + shifts[j]) < g) {
                    return false;
                }
            }
        }
        return true;
    }

    long free(int g, int what) {
        if (g < 1 || g > 30 || what < 0 || what > 2) {
            return -1;
        }
        List<Integer> free = new ArrayList<>();
        for (int m = 0; m < 60; m++) {
            int minute = m;
            if (state.villages().stream().allMatch(v -> gap(v.minute(), minute) >= g)) {
                free.add(m);
            }
        }
        if (what == 0) {
            return free.stream().mapToLong(m -> 1L << m).sum();
        }
        return what == 1 ? free.size() : free.isEmpty() ? -4 : free.get(0);
    }

    /** How soon: by the earliest times of places and sets heard. Which order: all orders, walked minute by minute. */
    int hear(int village, int minute, int w, int k) {
        if (no(village) || minute < 0 || minute > 59 || w < 1 || w > 9 || k < -1) {
            return -1;
        }
        int soonest = soonest(village, minute, w);
        if (k == -1) {
            return soonest;
        }
        if (k >= size()) {
            return -4;
        }
        return firstOrder(new ArrayList<>(), at(village).miles(), minute, w, minute + soonest).get(k);
    }

    private int soonest(int village, int minute, int w) {
        int n = size();
        int[][] time = new int[1 << n][n];
        int best = Integer.MAX_VALUE;
        for (int set = 1; set < 1 << n; set++) {
            for (int last = 0; last < n; last++) {
                time[set][last] = Integer.MAX_VALUE;
                int before = set & ~(1 << last);
                if (before == set) {
                    continue;
                }
                for (int from = 0; from < n; from++) {
                    if (before == 0 || (before >> from & 1) != 0 && time[before][from] < Integer.MAX_VALUE) {
                        int start = before == 0 ? minute : time[before][from];
                        int miles = before == 0 ? at(village).miles() : at(from).miles();
                        time[set][last] = Math.min(time[set][last], walk(start, miles, last, w));
                    }
                }
                if (set == (1 << n) - 1) {
                    best = Math.min(best, time[set][last]);
                }
            }
        }
        return best - minute;
    }

    private int walk(int start, int miles, int to, int w) {
        int time = start;
        int place = miles;
        while (place != at(to).miles()) {
            place += place < at(to).miles() ? 1 : -1;
            time += w;
        }
        while (time % 60 != at(to).minute()) {
            time++;
        }
        return time;
    }

    private List<Integer> firstOrder(List<Integer> gone, int miles, int time, int w, int due) {
        if (gone.size() == size()) {
            return time == due ? gone : null;
        }
        for (int next = 0; next < size(); next++) {
            if (!gone.contains(next)) {
                List<Integer> on = new ArrayList<>(gone);
                on.add(next);
                List<Integer> found = firstOrder(on, at(next).miles(), walk(time, miles, next, w), w, due);
                if (found != null) {
                    return found;
                }
            }
        }
        return null;
    }

    int again() {
        State then = state;
        for (int n = 2; n <= 240; n += 2) {
            then = nextDay(nextDay(then));
            if (then.villages().equals(state.villages())) {
                return n;
            }
        }
        return -4;
    }

    int worst(int what) {
        if (what != 0 && what != 1) {
            return -1;
        }
        int which = -4;
        int when = -4;
        for (int i = 0; i < size(); i++) {
            Village v = at(i);
            int then = together(with(state, i, new Village(v.kind(), v.minute(), 0, v.miles())));
            boolean later = when != -4 && (then == -4 || then > when);
            if (which == -4 || later) {
                which = i;
                when = then;
            }
        }
        return what == 0 ? which : when;
    }

    int fog(int c, int what) {
        if (c < 0 || c > 10 || what < 0 || what > 1) {
            return -1;
        }
        int[] shifts = new int[size()];
        int above = fogWays(c, shifts, 0);
        int below = (int) Math.round(Math.pow(10, size()));
        int divisor = java.math.BigInteger.valueOf(above).gcd(java.math.BigInteger.valueOf(below)).intValue();
        return (what == 0 ? above : below) / divisor;
    }

    private int fogWays(int c, int[] shifts, int i) {
        if (i == size()) {
            return apart(shifts, 1) ? 1 : 0;
        }
        shifts[i] = 1;
        int ways = c * fogWays(c, shifts, i + 1);
        shifts[i] = 0;
        return ways + (10 - c) * fogWays(c, shifts, i + 1);
    }

    int image() {
        image = new Image(state, List.copyOf(past));
        return 1;
    }

    int restore() {
        if (image == null) {
            return -4;
        }
        state = image.state();
        past.clear();
        past.addAll(image.past());
        return 1;
    }

    // ---- 3 sheets: here the machine may throw

    private static final Class<?>[] LANES = {byte.class, short.class, int.class, long.class};

    private static boolean noSheet(int sheet, int lane) {
        return sheet < 0 || sheet > 3 || lane < 0 || lane > 3;
    }

    /** A row as of a lane, with n items from i on: 0, or what the machine finds. */
    private int found(int sheet, int lane, int i, int n) {
        try {
            Object row = sheets[sheet];
            if (row == null) {
                throw new NullPointerException();
            }
            LANES[lane].arrayType().cast(row);
            for (int k = 0; k < n; k++) {
                Array.get(row, Math.addExact(i, k));
            }
            return 0;
        } catch (NullPointerException e) {
            return -11;
        } catch (ClassCastException e) {
            return -12;
        } catch (ArrayIndexOutOfBoundsException | ArithmeticException e) {
            return -13;
        }
    }

    private void put(int sheet, int i, long v) {
        Object row = sheets[sheet];
        if (row instanceof byte[] bytes) {
            bytes[i] = (byte) v;
        } else if (row instanceof short[] shorts) {
            shorts[i] = (short) v;
        } else if (row instanceof int[] ints) {
            ints[i] = (int) v;
        } else if (row instanceof long[] longs) {
            longs[i] = v;
        }
    }

    int heard(int village, int sheet, int lane, int i, int n, int what) {
        if (no(village) || noSheet(sheet, lane) || n < 1 || n > 8 || what < 0 || what > 1) {
            return -1;
        }
        int found = found(sheet, lane, i, n);
        if (found != 0) {
            return found;
        }
        Village v = at(village);
        int set = 0;
        for (int bit = 0; bit < (what == 0 ? 5 : 19); bit++) {
            Village other = what == 0 ? new Village(bit, v.minute(), v.drift(), v.miles())
                : new Village(v.kind(), v.minute(), bit - 9, v.miles());
            State s = with(state, village, other);
            boolean so = true;
            for (int day = 1; day <= n; day++) {
                so &= behind(s, day).villages().get(village).minute() == Array.getLong(sheets[sheet], i + day - 1);
            }
            set |= so ? 1 << bit : 0;
        }
        return set;
    }

    int film(int village, int n, int sheet, int lane, int i) {
        if (no(village) || noSheet(sheet, lane) || n < 1 || n > 24) {
            return -1;
        }
        int found = found(sheet, lane, i, n);
        if (found != 0) {
            return found;
        }
        for (int day = 1; day <= n; day++) {
            put(sheet, i + day - 1, behind(state, day).villages().get(village).minute());
        }
        return n;
    }

    int sheet(int sheet, int lane, int n) {
        if (noSheet(sheet, lane) || n > 24) {
            return -1;
        }
        try {
            sheets[sheet] = Array.newInstance(LANES[lane], n);
            return n;
        } catch (NegativeArraySizeException e) {
            return -14;
        }
    }

    int drop(int sheet) {
        if (noSheet(sheet, 0)) {
            return -1;
        }
        if (sheets[sheet] == null) {
            return -11;
        }
        int length = Array.getLength(sheets[sheet]);
        sheets[sheet] = null;
        return length;
    }

    int item(int sheet, int lane, int i, long v) {
        if (noSheet(sheet, lane)) {
            return -1;
        }
        int found = found(sheet, lane, i, 1);
        if (found != 0) {
            return found;
        }
        put(sheet, i, v);
        return 1;
    }

    int copy(int from, int i, int to, int j, int n) {
        if (noSheet(from, 0) || noSheet(to, 0)) {
            return -1;
        }
        try {
            System.arraycopy(sheets[from], i, sheets[to], j, n);
            return n;
        } catch (NullPointerException e) {
            return -11;
        } catch (ArrayStoreException e) {
            return -12;
        } catch (IndexOutOfBoundsException e) {
            return -13;
        }
    }
}
