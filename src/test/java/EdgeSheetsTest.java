import java.util.Arrays;

/** Part 3 of the document (HEARD, sheets) and promises 27 to 32: a test for each sentence that names an edge. */
public final class EdgeSheetsTest {
    private static final Due due = new Due();
    private static final Edge edge = new Edge(due);
    private static final int BAD = NineNoons.BAD;
    private static final int NULL = NineNoons.NULL;
    private static final int CAST = NineNoons.CAST;
    private static final int INDEX = NineNoons.INDEX;
    private static final int SIZE = NineNoons.SIZE;

    public static void main(String[] args) {
        heardTakes();
        heardRefusesInOrder();
        heardReaches();
        heardRowOfUpToEight();
        heardEachItemCounts();
        heardKinds();
        heardDrifts();
        heardItemsThatAreNoMinutes();
        heardBehindTheLastDay();
        filmTakes();
        filmRefusesInOrder();
        filmReaches();
        filmPutsAnItemEach();
        sheetTakes();
        sheetSize();
        sheetIsNew();
        dropTakes();
        dropOfNothing();
        itemTakes();
        itemRefusesInOrder();
        itemReaches();
        itemLowestBits();
        copyTakes();
        copyRefusesInOrder();
        copyReaches();
        copyOfNone();
        copyToTheSame();
        copyOfEachLane();
        nothingElseIsChanged();
        due.end();
    }

    private static void items(String sentence, NineNoons x, int sheet, int lane, int... want) {
        Due.valley(x, "p9+0");
        int[] got = Witness.items(x, sheet, lane);
        due.isTrue(sentence + ": " + Arrays.toString(got) + ", due are " + Arrays.toString(want), Arrays.equals(got, want));
    }

    // ---- promise 27

    private static void heardTakes() {
        edge.numbers("27: VILLAGE", 0, 3, Scene.BUSY, (x, village) -> x.heard(village, 0, 0, 0, 1, 0));
        edge.numbers("27: SHEET", 0, 3, Scene.BUSY, (x, sheet) -> x.heard(0, sheet, 0, 0, 1, 0));
        edge.numbers("27: LANE", 0, 3, Scene.BUSY, (x, lane) -> x.heard(0, 0, lane, 0, 1, 0));
        edge.numbers("27: n DAYS (1 .. 8)", 1, 8, Scene.BUSY, (x, n) -> x.heard(0, 0, 0, 0, n, 0));
        edge.numbers("27: n DAYS (1 .. 8)", 1, 8, Scene.FULL, (x, n) -> x.heard(0, 0, 3, 0, n, 1));
        edge.numbers("27: what", 0, 1, Scene.BUSY, (x, what) -> x.heard(0, 0, 0, 0, 1, what));
    }

    private static void heardRefusesInOrder() {
        // Sheet 3 holds nothing, sheet 0 holds bytes: whatever is wrong behind the first, the first is told.
        edge.refused("27: BAD ahead of NULL: VILLAGE", BAD, Scene.BUSY, x -> x.heard(4, 3, 0, -1, 1, 0));
        edge.refused("27: BAD ahead of NULL: LANE", BAD, Scene.BUSY, x -> x.heard(0, 3, 4, -1, 1, 0));
        edge.refused("27: BAD ahead of NULL: n", BAD, Scene.BUSY, x -> x.heard(0, 3, 0, -1, 9, 0));
        edge.refused("27: BAD ahead of NULL: what", BAD, Scene.BUSY, x -> x.heard(0, 3, 0, -1, 1, 2));
        edge.refused("27: BAD ahead of CAST", BAD, Scene.BUSY, x -> x.heard(0, 0, 1, -1, 0, 0));
        edge.refused("27: BAD ahead of INDEX", BAD, Scene.BUSY, x -> x.heard(0, 0, 0, -1, 1, -1));
        edge.refused("27: BAD ahead of INDEX: n 9 of 8", BAD, Scene.BUSY, x -> x.heard(0, 0, 0, 0, 9, 0));
        for (int lane = 0; lane < 4; lane++) {
            int which = lane;
            edge.refused("27: NULL ahead of CAST, INDEX", NULL, Scene.BUSY, x -> x.heard(0, 3, which, -1, 1, 0));
            edge.refused("27: CAST ahead of INDEX", lane == 0 ? INDEX : CAST, Scene.BUSY, x -> x.heard(0, 0, which, -1, 1, 0));
        }
        edge.refused("27: CAST of a row of 0 items", CAST, Scene.FULL, x -> x.heard(0, 2, 3, 0, 1, 0));
    }

    private static void heardReaches() {
        for (int n = 1; n <= 8; n++) {
            int count = n;
            due.isTrue("27: from item i on: the last ones, " + n, Scene.BUSY.make().heard(0, 0, 0, 8 - n, n, 0) >= 0);
            edge.refused("27: INDEX: one behind the end", INDEX, Scene.BUSY, x -> x.heard(0, 0, 0, 9 - count, count, 0));
            edge.refused("27: INDEX: one ahead", INDEX, Scene.BUSY, x -> x.heard(0, 0, 0, -1, count, 1));
            edge.refused("27: INDEX: the greatest", INDEX, Scene.BUSY, x -> x.heard(0, 0, 0, Integer.MAX_VALUE, count, 1));
            edge.refused("27: INDEX: the least", INDEX, Scene.BUSY, x -> x.heard(0, 0, 0, Integer.MIN_VALUE, count, 1));
        }
        edge.refused("27: INDEX of a row of 0 items", INDEX, Scene.FULL, x -> x.heard(0, 2, 2, 0, 1, 0));
        due.isTrue("27: the last of 24 items", Scene.FULL.make().heard(0, 0, 3, 23, 1, 0) >= 0);
        edge.refused("27: INDEX: 24 of 24 items", INDEX, Scene.FULL, x -> x.heard(0, 0, 3, 24, 1, 0));
        edge.refused("27: INDEX, though the first item is no such MINUTE", INDEX, Scene.BUSY, x -> x.heard(3, 0, 0, 7, 2, 0));
    }

    private static void heardRowOfUpToEight() {
        NineNoons x = Due.withRow("p50+4", 54, 58, 2, 6, 10, 14, 18, 22, 26);
        for (int n = 1; n <= 8; n++) {
            due.is("27: behind each of the next n DAYS: DRIFTS, " + n, x.heard(0, 0, 2, 0, n, 1), 1 << 13);
            due.is("27: behind each of the next n DAYS: KINDS, " + n, x.heard(0, 0, 2, 0, n, 0), 1 | 4 | 16);
        }
    }

    private static void heardEachItemCounts() {
        for (int wrong = 0; wrong < 8; wrong++) {
            NineNoons x = Due.withRow("p50+4", 54, 58, 2, 6, 10, 14, 18, 22);
            x.item(0, 2, wrong, 55);
            due.is("27: each of the next n DAYS: not item " + wrong, x.heard(0, 0, 2, 0, 8, 0), 0);
            due.is("27: each of the next n DAYS: not item " + wrong, x.heard(0, 0, 2, 0, 8, 1), 0);
            if (wrong > 0) {
                due.is("27: as far as it is so", x.heard(0, 0, 2, 0, wrong, 1), 1 << 13);
            }
        }
    }

    private static void heardKinds() {
        due.is("27: KINDS: all", Due.withRow("p50+0", 50, 50).heard(0, 0, 2, 0, 2, 0), 31);
        due.is("27: KINDS: none", Due.withRow("p50+4", 51).heard(0, 0, 2, 0, 1, 0), 0);
        due.is("27: KINDS: SLOW and FOGGY", Due.withRow("h50+4", 52).heard(0, 0, 2, 0, 1, 0), 2 | 8);
        due.is("27: KINDS: SLOW", Due.withRow("h50+4", 52, 54).heard(0, 0, 2, 0, 2, 0), 2);
        due.is("27: KINDS: FOGGY", Due.withRow("h50+4", 52, 50).heard(0, 0, 2, 0, 2, 0), 8);
        due.is("27: KINDS: COUSIN", Due.withRow("s50+4,p20+0", 55).heard(0, 0, 2, 0, 1, 0), 16);
        due.is("27: KINDS: HEARER", Due.withRow("s50+4,p47+0@11", 50).heard(0, 0, 2, 0, 1, 0), 4 | 16);
        due.is("27: KINDS: PLAIN", Due.withRow("s50+4,p47+0@11", 54).heard(0, 0, 2, 0, 1, 0), 1);
        NineNoons odd = Due.withRow("p50+4", 48, 50);
        odd.tune(0, 9);
        odd.days(1);
        odd.tune(0, 13);
        due.is("27: KINDS: FOGGY on an odd DAY", odd.heard(0, 0, 2, 0, 2, 0), 8);
        due.is("27: KINDS, whichever its own is", Due.withRow("c50+4", 54).heard(0, 0, 2, 0, 1, 0), 1 | 4 | 16);
    }

    private static void heardDrifts() {
        for (int drift = -9; drift <= 9; drift++) {
            NineNoons x = Due.withRow("p50+3", (50 + drift + 60) % 60, (50 + 2 * drift + 60) % 60);
            due.is("27: DRIFTS (-9 .. 9, a set of bits 0 .. 18): " + drift, x.heard(0, 0, 2, 0, 2, 1), 1 << drift + 9);
        }
        due.is("27: DRIFTS: 10 is none", Due.withRow("p50+3", 0).heard(0, 0, 2, 0, 1, 1), 0);
        due.is("27: DRIFTS: -10 is none", Due.withRow("p50+3", 40).heard(0, 0, 2, 0, 1, 1), 0);
        due.is("27: DRIFTS: of SLOW -1, 0, 1", Due.withRow("s50+3", 50).heard(0, 0, 2, 0, 1, 1), 7 << 8);
        due.is("27: DRIFTS: of SLOW 8, 9", Due.withRow("s50+3", 54).heard(0, 0, 2, 0, 1, 1), 3 << 17);
        due.is("27: DRIFTS: of SLOW -8, -9", Due.withRow("s50+3", 46).heard(0, 0, 2, 0, 1, 1), 3);
        due.is("27: DRIFTS: all of a HEARER that hears", Due.withRow("h50+3,p50+0", 50).heard(0, 0, 2, 0, 1, 1), (1 << 19) - 1);
        due.is("27: DRIFTS: 9 of a COUSIN by 10", Due.withRow("c50+3,p20+0", 0).heard(0, 0, 2, 0, 1, 1), 1 << 18);
    }

    private static void heardItemsThatAreNoMinutes() {
        for (long item : new long[] {60, -1, 110, 50 - 60, 50 + 256, 50 + 65536, Integer.MIN_VALUE, Integer.MAX_VALUE}) {
            NineNoons x = Due.withRow("p50+0", item);
            due.is("27: no MINUTE: " + item, x.heard(0, 0, 2, 0, 1, 0), 0);
            due.is("27: no MINUTE: " + item, x.heard(0, 0, 2, 0, 1, 1), 0);
        }
        NineNoons longs = Due.of("p50+0");
        longs.sheet(1, 3, 1);
        longs.item(1, 3, 0, 50 + (1L << 32));
        due.is("27: no MINUTE, of longs", longs.heard(0, 1, 3, 0, 1, 1), 0);
    }

    private static void heardBehindTheLastDay() {
        NineNoons x = Scene.LAST.make();
        x.sheet(0, 0, 8);
        x.film(1, 8, 0, 0, 0);
        due.is("27: foretold above DAY 9999", x.heard(1, 0, 0, 0, 8, 0), 8);
    }

    // ---- promise 28

    private static void filmTakes() {
        edge.numbers("28: VILLAGE", 0, 5, Scene.FULL, (x, village) -> x.film(village, 1, 0, 3, 0));
        edge.numbers("28: n DAYS (1 .. 24)", 1, 24, Scene.FULL, (x, n) -> x.film(0, n, 0, 3, 0));
        edge.numbers("28: SHEET", 0, 3, Scene.FULL, (x, sheet) -> x.film(0, 1, sheet, 3, 0));
        edge.numbers("28: LANE", 0, 3, Scene.FULL, (x, lane) -> x.film(0, 1, 0, lane, 0));
    }

    private static void filmRefusesInOrder() {
        edge.refused("28: BAD ahead of NULL: VILLAGE", BAD, Scene.BUSY, x -> x.film(4, 1, 3, 0, -1));
        edge.refused("28: BAD ahead of NULL: n", BAD, Scene.BUSY, x -> x.film(0, 25, 3, 0, -1));
        edge.refused("28: BAD ahead of NULL: LANE", BAD, Scene.BUSY, x -> x.film(0, 1, 3, 4, -1));
        edge.refused("28: BAD ahead of CAST", BAD, Scene.BUSY, x -> x.film(0, 0, 0, 1, -1));
        edge.refused("28: BAD ahead of INDEX", BAD, Scene.BUSY, x -> x.film(0, 25, 0, 0, -1));
        for (int lane = 0; lane < 4; lane++) {
            int which = lane;
            edge.refused("28: NULL ahead of CAST, INDEX", NULL, Scene.BUSY, x -> x.film(0, 1, 3, which, -1));
            edge.refused("28: CAST ahead of INDEX", lane == 1 ? INDEX : CAST, Scene.BUSY, x -> x.film(0, 6, 1, which, 0));
        }
    }

    private static void filmReaches() {
        for (int n : new int[] {1, 2, 5, 6}) {
            due.is("28: to the last item: " + n, Scene.BUSY.make().film(0, n, 2, 0, 6 - n), n);
            edge.refused("28: INDEX: one behind the end: nothing comes", INDEX, Scene.BUSY, x -> x.film(0, n, 2, 0, 7 - n));
            edge.refused("28: INDEX: one ahead: nothing comes", INDEX, Scene.BUSY, x -> x.film(0, n, 2, 0, -1));
            edge.refused("28: INDEX: the greatest", INDEX, Scene.BUSY, x -> x.film(0, n, 2, 0, Integer.MAX_VALUE));
            edge.refused("28: INDEX: the least", INDEX, Scene.BUSY, x -> x.film(0, n, 2, 0, Integer.MIN_VALUE));
        }
        edge.refused("28: INDEX: 24 from 1 on", INDEX, Scene.FULL, x -> x.film(0, 24, 0, 3, 1));
        edge.refused("28: INDEX of a row of 0 items", INDEX, Scene.FULL, x -> x.film(0, 1, 2, 2, 0));
    }

    private static void filmPutsAnItemEach() {
        for (int lane = 0; lane < 4; lane++) {
            NineNoons x = Due.of("p50+4,f0+9");
            x.sheet(0, lane, 6);
            due.is("28: film: n", x.film(0, 4, 0, lane, 1), 4);
            items("28: the MINUTE behind 1, 2, .. n DAYS", x, 0, lane, 0, 54, 58, 2, 6, 0);
            NineNoons y = Due.of("p50+4,f0+9");
            y.days(1);
            y.sheet(0, lane, 3);
            y.film(1, 3, 0, lane, 0);
            items("28: FOGGY from an odd DAY on", y, 0, lane, 0, 4, 0);
            NineNoons all = Due.of("p0+1");
            all.sheet(3, lane, 24);
            due.is("28: film: 24", all.film(0, 24, 3, lane, 0), 24);
            items("28: 24 items", all, 3, lane,
                1, 2, 3, 4, 5, 6, 7, 8, 9, 10, 11, 12, 13, 14, 15, 16, 17, 18, 19, 20, 21, 22, 23, 24);
        }
    }

    // ---- promises 29 and 30

    private static void sheetTakes() {
        edge.numbers("29: SHEET", 0, 3, Scene.BUSY, (x, sheet) -> x.sheet(sheet, 0, 1));
        edge.numbers("29: LANE", 0, 3, Scene.BUSY, (x, lane) -> x.sheet(0, lane, 1));
        edge.refused("29: BAD: also n above 24", BAD, Scene.BUSY, x -> x.sheet(0, 0, 25));
        edge.refused("29: BAD: also n above 24", BAD, Scene.BUSY, x -> x.sheet(3, 0, Integer.MAX_VALUE));
        for (int lane = 0; lane < 4; lane++) {
            for (int n = 0; n <= 24; n++) {
                NineNoons x = new NineNoons();
                due.is("29: of 0 to 24 items", x.sheet(lane, 3 - lane, n), n);
                due.is("29: of 0 to 24 items", x.item(lane, 3 - lane, n, 1), INDEX);
                due.is("29: of 0 to 24 items", x.item(lane, 3 - lane, n - 1, 1), n == 0 ? INDEX : 1);
                due.is("30: how many items it had", x.drop(lane), n);
            }
        }
    }

    private static void sheetSize() {
        edge.refused("29: SIZE: n below 0", SIZE, Scene.BUSY, x -> x.sheet(0, 0, -1));
        edge.refused("29: SIZE: n below 0", SIZE, Scene.BUSY, x -> x.sheet(3, 3, Integer.MIN_VALUE));
        edge.refused("29: BAD ahead of SIZE: SHEET", BAD, Scene.BUSY, x -> x.sheet(4, 0, -1));
        edge.refused("29: BAD ahead of SIZE: SHEET", BAD, Scene.BUSY, x -> x.sheet(-1, 0, -1));
        edge.refused("29: BAD ahead of SIZE: LANE", BAD, Scene.BUSY, x -> x.sheet(0, 4, -1));
        edge.refused("29: BAD ahead of SIZE: LANE", BAD, Scene.BUSY, x -> x.sheet(0, -1, -1));
    }

    private static void sheetIsNew() {
        NineNoons x = Scene.BUSY.make();
        due.is("29: a new row in place of one", x.sheet(0, 0, 8), 8);
        x.valley();
        items("29: a new row holds 0", x, 0, 0, 0, 0, 0, 0, 0, 0, 0, 0);
        NineNoons y = Scene.BUSY.make();
        y.sheet(0, 0, 2);
        y.sheet(0, 0, 8);
        y.valley();
        items("29: a new row holds 0, though a shorter one was between", y, 0, 0, 0, 0, 0, 0, 0, 0, 0, 0);
        NineNoons z = Scene.BUSY.make();
        z.drop(0);
        z.sheet(0, 0, 8);
        z.valley();
        items("29: a new row holds 0, though it held nothing between", z, 0, 0, 0, 0, 0, 0, 0, 0, 0, 0);
        NineNoons lane = Scene.BUSY.make();
        lane.sheet(0, 3, 8);
        due.is("29: a new row of another LANE", lane.item(0, 3, 7, 1), 1);
        due.is("29: a new row of another LANE", lane.item(0, 0, 7, 1), CAST);
        due.is("29: other SHEETS stay", lane.drop(1), 5);
        due.is("29: other SHEETS stay", lane.drop(2), 6);
    }

    private static void dropTakes() {
        edge.numbers("30: SHEET", 0, 3, Scene.BUSY, (x, sheet) -> x.drop(sheet));
        int[] lengths = {24, 5, 0, 3};
        for (int sheet = 0; sheet < 4; sheet++) {
            NineNoons x = Scene.FULL.make();
            due.is("30: how many items it had", x.drop(sheet), lengths[sheet]);
            due.is("30: a SHEET holds nothing", x.drop(sheet), NULL);
            due.is("30: a SHEET holds nothing", x.item(sheet, 0, 0, 0), NULL);
            due.is("30: a SHEET holds nothing", x.copy(sheet, 0, sheet, 0, 0), NULL);
            for (int other = 0; other < 4; other++) {
                if (other != sheet) {
                    due.is("30: other SHEETS stay", x.drop(other), lengths[other]);
                }
            }
        }
    }

    private static void dropOfNothing() {
        edge.refused("30: NULL", NULL, Scene.BUSY, x -> x.drop(3));
        for (int sheet = 0; sheet < 4; sheet++) {
            int which = sheet;
            edge.refused("30: NULL: nothing (at first)", NULL, Scene.EMPTY, x -> x.drop(which));
        }
    }

    // ---- promise 31

    private static void itemTakes() {
        edge.numbers("31: SHEET", 0, 3, Scene.BUSY, (x, sheet) -> x.item(sheet, 0, 0, 7));
        edge.numbers("31: LANE", 0, 3, Scene.BUSY, (x, lane) -> x.item(0, lane, 0, 7));
    }

    private static void itemRefusesInOrder() {
        edge.refused("31: BAD ahead of NULL", BAD, Scene.BUSY, x -> x.item(3, 4, -1, 7));
        edge.refused("31: BAD ahead of CAST, INDEX", BAD, Scene.BUSY, x -> x.item(0, -1, -1, 7));
        for (int lane = 0; lane < 4; lane++) {
            int which = lane;
            edge.refused("31: NULL ahead of CAST, INDEX", NULL, Scene.BUSY, x -> x.item(3, which, -1, 7));
            edge.refused("31: CAST ahead of INDEX", lane == 1 ? INDEX : CAST, Scene.BUSY, x -> x.item(1, which, 5, 7));
            if (lane != 1) {
                edge.refused("31: CAST", CAST, Scene.BUSY, x -> x.item(1, which, 0, 7));
            }
        }
    }

    private static void itemReaches() {
        NineNoons x = Scene.BUSY.make();
        due.is("31: item 0", x.item(1, 1, 0, 17), 1);
        due.is("31: the last item", x.item(1, 1, 4, 18), 1);
        x.valley();
        Due.valley(x, "p9+0");
        int[] got = Witness.items(x, 1, 1);
        int[] want = filmed();
        want[0] = 17;
        want[4] = 18;
        due.isTrue("31: becomes v; others stay: " + Arrays.toString(got), Arrays.equals(got, want));
        for (int i : new int[] {-1, 5, Integer.MIN_VALUE, Integer.MAX_VALUE}) {
            edge.refused("31: INDEX: " + i, INDEX, Scene.BUSY, y -> y.item(1, 1, i, 7));
        }
        edge.refused("31: INDEX of a row of 0 items", INDEX, Scene.FULL, y -> y.item(2, 2, 0, 7));
        edge.refused("31: INDEX: 24 of 24 items", INDEX, Scene.FULL, y -> y.item(0, 3, 24, 7));
    }

    /** The items of sheet 1 of a busy scene. */
    private static int[] filmed() {
        NineNoons x = Scene.BUSY.make();
        int[] minutes = new int[5];
        for (int day = 1; day <= 5; day++) {
            minutes[day - 1] = x.ahead(1, day);
        }
        return minutes;
    }

    private static void itemLowestBits() {
        int[] bits = {8, 16, 32, 64};
        NineNoons x = Due.of("p5+4");
        for (int lane = 0; lane < 4; lane++) {
            x.sheet(lane, lane, 1);
            for (int bit = 6; bit < 64; bit++) {
                due.is("31: any v", x.item(lane, lane, 0, 9L + (1L << bit)), 1);
                due.is("31: its lowest bits: LANE " + lane + ", bit " + bit, x.heard(0, lane, lane, 0, 1, 1),
                    bit < bits[lane] ? 0 : 1 << 13);
            }
        }
        for (long v : new long[] {Long.MIN_VALUE, Long.MAX_VALUE, -1, 0}) {
            due.is("31: any v", x.item(3, 3, 0, v), 1);
            due.is("31: any v", x.item(0, 0, 0, v), 1);
        }
        // -1 is no 255, nor 59, whatever the lane.
        x.set(0, 59);
        x.item(0, 0, 0, 255);
        due.is("31: bytes are below 0, too", x.heard(0, 0, 0, 0, 1, 1), 0);
    }

    // ---- promise 32

    private static NineNoons rows() {
        NineNoons x = Due.of("p9+0");
        x.sheet(0, 1, 6);
        x.sheet(1, 1, 4);
        for (int i = 0; i < 6; i++) {
            x.item(0, 1, i, 10 + i);
        }
        for (int i = 0; i < 4; i++) {
            x.item(1, 1, i, 20 + i);
        }
        return x;
    }

    private static void copied(int from, int i, int to, int j, int n, int[] first, int[] second) {
        NineNoons x = rows();
        String call = "32: copy(" + from + ", " + i + ", " + to + ", " + j + ", " + n + ")";
        due.is(call, x.copy(from, i, to, j, n), n);
        items(call + ", sheet 0", x, 0, 1, first);
        items(call + ", sheet 1", x, 1, 1, second);
    }

    private static void copyTakes() {
        edge.numbers("32: from", 0, 3, Scene.BUSY, (x, from) -> x.copy(from, 0, 2, 1, 2));
        edge.numbers("32: to", 0, 3, Scene.BUSY, (x, to) -> x.copy(0, 0, to, 1, 2));
        int[] first = {10, 11, 12, 13, 14, 15};
        copied(0, 0, 1, 0, 4, first, new int[] {10, 11, 12, 13});
        copied(0, 2, 1, 0, 4, first, new int[] {12, 13, 14, 15});
        copied(0, 5, 1, 3, 1, first, new int[] {20, 21, 22, 15});
        copied(1, 0, 0, 2, 4, new int[] {10, 11, 20, 21, 22, 23}, new int[] {20, 21, 22, 23});
    }

    private static void copyRefusesInOrder() {
        edge.refused("32: BAD ahead of NULL: from", BAD, Scene.BUSY, x -> x.copy(4, 0, 3, 0, 1));
        edge.refused("32: BAD ahead of NULL: to", BAD, Scene.BUSY, x -> x.copy(3, 0, -1, 0, 1));
        edge.refused("32: NULL (either): from", NULL, Scene.BUSY, x -> x.copy(3, -1, 0, -1, -1));
        edge.refused("32: NULL (either): to", NULL, Scene.BUSY, x -> x.copy(0, -1, 3, -1, -1));
        edge.refused("32: NULL of one and the same", NULL, Scene.BUSY, x -> x.copy(3, 0, 3, 0, 0));
        edge.refused("32: NULL of 0 items", NULL, Scene.BUSY, x -> x.copy(0, 0, 3, 0, 0));
        edge.refused("32: CAST: of unlike LANES", CAST, Scene.BUSY, x -> x.copy(0, 0, 1, 0, 1));
        edge.refused("32: CAST: of unlike LANES, 0 items", CAST, Scene.BUSY, x -> x.copy(1, 0, 0, 0, 0));
        edge.refused("32: CAST ahead of INDEX", CAST, Scene.BUSY, x -> x.copy(0, -1, 1, 0, 1));
        edge.refused("32: CAST ahead of INDEX", CAST, Scene.BUSY, x -> x.copy(0, 0, 1, 0, -1));
        edge.refused("32: CAST of a row of 0 items", CAST, Scene.FULL, x -> x.copy(2, 0, 3, 0, 0));
    }

    private static void copyReaches() {
        // Sheet 0 has 8 items, sheet 2 has 6, both bytes.
        int[][] in = {{0, 0, 6}, {2, 0, 6}, {7, 5, 1}, {8, 6, 0}, {0, 6, 0}, {8, 0, 0}};
        for (int[] a : in) {
            due.is("32: just in: " + Arrays.toString(a), Scene.BUSY.make().copy(0, a[0], 2, a[1], a[2]), a[2]);
        }
        int[][] out = {{-1, 0, 1}, {0, -1, 1}, {0, 0, -1}, {3, 0, 6}, {0, 1, 6}, {0, 0, 7}, {8, 0, 1}, {0, 6, 1},
            {9, 0, 0}, {0, 7, 0}, {-1, 0, 0}, {0, -1, 0}, {8, 0, -1}, {0, 6, -1}, {1, 1, -1},
            {Integer.MAX_VALUE, 0, 1}, {0, Integer.MAX_VALUE, 1}, {0, 0, Integer.MAX_VALUE},
            {1, 0, Integer.MAX_VALUE}, {0, 1, Integer.MAX_VALUE}, {Integer.MAX_VALUE, 0, Integer.MAX_VALUE},
            {Integer.MIN_VALUE, 0, 1}, {0, Integer.MIN_VALUE, 1}, {0, 0, Integer.MIN_VALUE},
            {Integer.MIN_VALUE, 0, Integer.MIN_VALUE}, {Integer.MAX_VALUE, 0, Integer.MIN_VALUE}};
        for (int[] a : out) {
            edge.refused("32: INDEX: " + Arrays.toString(a), INDEX, Scene.BUSY, x -> x.copy(0, a[0], 2, a[1], a[2]));
        }
        edge.refused("32: INDEX of a row of 0 items", INDEX, Scene.FULL, x -> x.copy(2, 0, 2, 0, 1));
        due.is("32: 24 items", Scene.FULL.make().copy(0, 0, 0, 0, 24), 24);
        edge.refused("32: INDEX: 25 items", INDEX, Scene.FULL, x -> x.copy(0, 0, 0, 0, 25));
    }

    private static void copyOfNone() {
        edge.changesNothing("32: n 0", Scene.BUSY, x -> x.copy(0, 3, 2, 3, 0));
        edge.changesNothing("32: n 0 at the ends", Scene.BUSY, x -> x.copy(0, 8, 2, 6, 0));
        due.is("32: n 0 of a row of 0 items", Scene.FULL.make().copy(2, 0, 2, 0, 0), 0);
    }

    private static void copyToTheSame() {
        int[] second = {20, 21, 22, 23};
        copied(0, 0, 0, 1, 5, new int[] {10, 10, 11, 12, 13, 14}, second);
        copied(0, 1, 0, 0, 5, new int[] {11, 12, 13, 14, 15, 15}, second);
        copied(0, 0, 0, 3, 3, new int[] {10, 11, 12, 10, 11, 12}, second);
        copied(0, 0, 0, 0, 6, new int[] {10, 11, 12, 13, 14, 15}, second);
    }

    private static void copyOfEachLane() {
        for (int lane = 0; lane < 4; lane++) {
            for (int other = 0; other < 4; other++) {
                NineNoons x = Due.of("p9+0");
                x.sheet(0, lane, 2);
                x.sheet(1, other, 2);
                x.item(0, lane, 0, 31);
                x.item(0, lane, 1, 32);
                due.is("32: CAST: of unlike LANES: " + lane + ", " + other, x.copy(0, 0, 1, 0, 2), lane == other ? 2 : CAST);
                items("32: LANES " + lane + ", " + other, x, 1, other, lane == other ? 31 : 0, lane == other ? 32 : 0);
            }
        }
    }

    private static void nothingElseIsChanged() {
        for (Scene scene : new Scene[] {Scene.BUSY, Scene.FULL}) {
            edge.changesNothing("27: heard", scene, x -> x.heard(0, 0, scene == Scene.BUSY ? 0 : 3, 0, 8, 0));
            edge.changesNothing("27: heard", scene, x -> x.heard(0, 0, scene == Scene.BUSY ? 0 : 3, 0, 8, 1));
        }
        edge.changesNothing("28: film of what is there", Scene.BUSY, x -> x.film(0, 8, 0, 0, 0));
        edge.becomes("29, 30: a SHEET, then nothing", Scene.BUSY, x -> x.sheet(3, 3, 24) + x.drop(3), Scene.BUSY);
        NineNoons x = Scene.BUSY.make();
        x.sheet(0, 1, 3);
        x.item(0, 1, 2, 9);
        x.copy(0, 0, 1, 0, 3);
        x.film(0, 3, 0, 1, 0);
        x.drop(0);
        due.isTrue("28 to 32: the valley stays", Witness.told(x, 0).equals(Scene.BUSY.told(0)));
    }
}
