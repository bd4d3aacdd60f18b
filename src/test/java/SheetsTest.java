/** Promises 27 to 32: heard, film, sheet, drop, item, copy. */
public final class SheetsTest {
    private static final Due due = new Due();
    private static final int[] BITS = {8, 16, 32, 64};

    public static void main(String[] args) {
        promise27();
        promise27Refused();
        promise27Alone();
        promise27Lanes();
        promise28();
        promise28Refused();
        promise29();
        promise30();
        promise31();
        promise31Bits();
        promise32();
        promise32Refused();
        due.end();
    }

    private static void promise27() {
        // By 4 a day: PLAIN; HEARER and COUSIN alone in the valley as PLAIN.
        NineNoons plain = Due.withRow("p5+4", 9, 13, 17);
        due.is("27: kinds", plain.heard(0, 0, 2, 0, 3, 0), 1 | 4 | 16);
        due.is("27: drifts", plain.heard(0, 0, 2, 0, 3, 1), 1 << 13);
        // By 2 a day: SLOW; on the first day also FOGGY.
        NineNoons slow = Due.withRow("p5+4", 7, 9);
        due.is("27: kinds of a day", slow.heard(0, 0, 2, 0, 1, 0), 2 | 8);
        due.is("27: kinds of two days", slow.heard(0, 0, 2, 0, 2, 0), 2);
        due.is("27: drifts", slow.heard(0, 0, 2, 0, 2, 1), 1 << 11);
        due.is("27: from item 1 on", slow.heard(0, 0, 2, 1, 1, 0), 1 | 4 | 16);
        NineNoons foggy = Due.withRow("f5+4", 7, 5, 7, 5);
        due.is("27: foggy", foggy.heard(0, 0, 2, 0, 4, 0), 8);
        due.is("27: cut: 4 and 5", foggy.heard(0, 0, 2, 0, 4, 1), 3 << 13);
        foggy.days(1);
        due.is("27: by 0 it is none", foggy.heard(0, 0, 2, 0, 1, 0), 0);
        due.is("27: on an odd day the other way", foggy.heard(0, 0, 2, 1, 3, 0), 8);
        NineNoons stands = Due.withRow("s5+1", 5, 5);
        due.is("27: -1, 0 and 1 stand, if slow", stands.heard(0, 0, 2, 0, 2, 1), 7 << 8);
        due.is("27: slow and foggy stand by 1", stands.heard(0, 0, 2, 0, 2, 0), 2 | 8);
        NineNoons none = Due.withRow("p5+4", 60, -1);
        due.is("27: no minute", none.heard(0, 0, 2, 0, 2, 0), 0);
        due.is("27: no minute", none.heard(0, 0, 2, 0, 2, 1), 0);
        NineNoons least = Due.withRow("p5-9", 56, 14);
        due.is("27: -9 round the hour", least.heard(0, 0, 2, 0, 1, 1), 1);
        due.is("27: 9", least.heard(0, 0, 2, 1, 1, 1), 1 << 18);
    }

    private static void promise27Refused() {
        NineNoons x = Due.withRow("p5+4", 9, 13, 17, 21, 25, 29, 33, 37, 41);
        int[][] bad = {{1, 0, 2, 0, 1, 0}, {-1, 0, 2, 0, 1, 0}, {0, 4, 2, 0, 1, 0}, {0, -1, 2, 0, 1, 0},
            {0, 0, 4, 0, 1, 0}, {0, 0, -1, 0, 1, 0}, {0, 0, 2, 0, 0, 0}, {0, 0, 2, 0, 9, 0},
            {0, 0, 2, 0, 1, 2}, {0, 0, 2, 0, 1, -1}, {0, 3, 0, -1, 9, 0}};
        for (int[] b : bad) {
            due.is("27: bad", x.heard(b[0], b[1], b[2], b[3], b[4], b[5]), NineNoons.BAD);
        }
        due.is("27: null", x.heard(0, 1, 2, -1, 1, 0), NineNoons.NULL);
        due.is("27: cast", x.heard(0, 0, 3, -1, 1, 0), NineNoons.CAST);
        due.is("27: index -1", x.heard(0, 0, 2, -1, 1, 0), NineNoons.INDEX);
        due.is("27: just in", x.heard(0, 0, 2, 1, 8, 1), 0);
        due.is("27: index behind", x.heard(0, 0, 2, 2, 8, 1), NineNoons.INDEX);
        due.is("27: index, though the first item is wrong", x.heard(0, 0, 2, 8, 2, 0), NineNoons.INDEX);
        due.is("27: index great", x.heard(0, 0, 2, Integer.MAX_VALUE, 8, 0), NineNoons.INDEX);
        due.is("27: index least", x.heard(0, 0, 2, Integer.MIN_VALUE, 8, 0), NineNoons.INDEX);
    }

    /** Other villages go on by their own kinds, and hear what the one would ring. */
    private static void promise27Alone() {
        NineNoons x = Due.withRow("p0+2,h10+2", 2, 4, 6, 8, 10);
        due.is("27: plain alone; the hearer drifts off ahead", x.heard(0, 0, 2, 0, 5, 0), 1 | 4);
        NineNoons near = Due.withRow("p0+2,p2+2@11,p30+0", 0);
        due.is("27: a hearer would stand; a cousin goes by 1, as the last one is near", near.heard(0, 0, 2, 0, 1, 0), 4);
        near.move(2, 40);
        due.is("27: a cousin would stand, too", near.heard(0, 0, 2, 0, 1, 0), 4 | 16);
        near.item(0, 2, 0, 1);
        due.is("27: by 1: slow, foggy", near.heard(0, 0, 2, 0, 1, 0), 2 | 8);
        near.move(2, 10);
        due.is("27: by 1: the cousin, too", near.heard(0, 0, 2, 0, 1, 0), 2 | 8 | 16);
    }

    private static void promise27Lanes() {
        NineNoons x = Due.of("p5+4");
        for (int lane = 0; lane < 4; lane++) {
            x.sheet(lane, lane, 2);
            x.item(lane, lane, 0, 9);
            x.item(lane, lane, 1, 13 + (1L << 32));
        }
        for (int lane = 0; lane < 4; lane++) {
            due.is("27: lane " + lane, x.heard(0, lane, lane, 0, 1, 1), 1 << 13);
            due.is("27: all bits of longs count", x.heard(0, lane, lane, 0, 2, 1), lane == 3 ? 0 : 1 << 13);
        }
    }

    private static void promise28() {
        for (int village = 0; village < 6; village++) {
            NineNoons x = Due.of("p5+4@3,s12-7@12,h40+5@20,f58-6@9,c30+2@31,p21-1");
            x.days(1);
            int lane = village % 4;
            int[] want = new int[24];
            for (int day = 1; day <= 24; day++) {
                want[day - 1] = x.ahead(village, day);
            }
            x.sheet(1, lane, 24);
            x.sheet(2, lane, 24);
            due.is("28: film", x.film(village, 24, 1, lane, 0), 24);
            due.is("28: film", x.film(village, 3, 2, lane, 21), 3);
            Due.valley(x, "p0+0");
            for (int i = 0; i < 24; i++) {
                due.is("28: village " + village + ", item " + i, read(x, 1, lane, i), want[i]);
            }
            for (int i = 20; i < 24; i++) {
                due.is("28: village " + village + ", item " + i, read(x, 2, lane, i), i < 21 ? 0 : want[i - 21]);
            }
        }
    }

    /** An item of 0 .. 59, as VILLAGE 0, which is to be PLAIN and alone, is asked which DRIFT it would be; else -1. */
    private static int read(NineNoons x, int sheet, int lane, int i) {
        for (int minute : new int[] {9, 28, 47, 50}) {
            x.set(0, minute);
            int drifts = x.heard(0, sheet, lane, i, 1, 1);
            if (drifts != 0) {
                return (minute + Integer.numberOfTrailingZeros(drifts) - 9) % 60;
            }
        }
        return -1;
    }

    private static void promise28Refused() {
        NineNoons x = Due.of("p5+4");
        x.sheet(0, 2, 10);
        int[][] bad = {{1, 1, 0, 2, 0}, {-1, 1, 0, 2, 0}, {0, 0, 0, 2, 0}, {0, 25, 0, 2, 0}, {0, -1, 0, 2, 0},
            {0, 1, 4, 2, 0}, {0, 1, -1, 2, 0}, {0, 1, 0, 4, 0}, {0, 1, 0, -1, 0}, {0, 25, 1, 0, -1}};
        for (int[] b : bad) {
            due.is("28: bad", x.film(b[0], b[1], b[2], b[3], b[4]), NineNoons.BAD);
        }
        due.is("28: null", x.film(0, 24, 1, 2, -1), NineNoons.NULL);
        due.is("28: cast", x.film(0, 24, 0, 1, -1), NineNoons.CAST);
        due.is("28: index -1", x.film(0, 1, 0, 2, -1), NineNoons.INDEX);
        due.is("28: too long", x.film(0, 11, 0, 2, 0), NineNoons.INDEX);
        due.is("28: too long", x.film(0, 8, 0, 2, 3), NineNoons.INDEX);
        due.is("28: great", x.film(0, 24, 0, 2, Integer.MAX_VALUE), NineNoons.INDEX);
        due.is("28: refused: nothing came there", x.heard(0, 0, 2, 3, 1, 1), 1 << 4);
        due.is("28: just in", x.film(0, 8, 0, 2, 2), 8);
        due.is("28: from item 2 on", x.heard(0, 0, 2, 2, 8, 1), 1 << 13);
        due.is("28: the one ahead stays 0", x.heard(0, 0, 2, 1, 1, 1), 1 << 4);
    }

    private static void promise29() {
        NineNoons x = new NineNoons();
        int[][] bad = {{-1, 0, 1}, {4, 0, 1}, {0, -1, 1}, {0, 4, 1}, {0, 0, 25}, {4, 0, -1}, {0, 4, -1}};
        for (int[] b : bad) {
            due.is("29: bad", x.sheet(b[0], b[1], b[2]), NineNoons.BAD);
        }
        due.is("29: size", x.sheet(0, 0, -1), NineNoons.SIZE);
        due.is("29: size", x.sheet(0, 0, Integer.MIN_VALUE), NineNoons.SIZE);
        due.is("29: still nothing", x.drop(0), NineNoons.NULL);
        for (int lane = 0; lane < 4; lane++) {
            due.is("29: 24", x.sheet(lane, lane, 24), 24);
            due.is("29: 0", x.sheet(3 - lane, lane, 0), 0);
        }
        due.is("29: of 0 items", x.item(0, 3, 0, 1), NineNoons.INDEX);
        NineNoons y = Due.withRow("p9+1", 10, 11);
        due.is("29: refused", y.sheet(0, 0, -1), NineNoons.SIZE);
        due.is("29: it stays", y.heard(0, 0, 2, 0, 2, 1), 1 << 10);
        y.sheet(0, 2, 2);
        y.set(0, 59);
        due.is("29: a new row holds 0", y.heard(0, 0, 2, 0, 1, 1), 1 << 10);
        y.tune(0, 9);
        y.set(0, 0);
        due.is("29: a new row holds 0", y.heard(0, 0, 2, 0, 2, 1), 1 << 9);
    }

    private static void promise30() {
        NineNoons x = new NineNoons();
        due.is("30: -1", x.drop(-1), NineNoons.BAD);
        due.is("30: 4", x.drop(4), NineNoons.BAD);
        due.is("30: nothing", x.drop(3), NineNoons.NULL);
        x.sheet(3, 1, 7);
        x.sheet(2, 1, 0);
        due.is("30: 7", x.drop(3), 7);
        due.is("30: 0", x.drop(2), 0);
        due.is("30: nothing then", x.drop(3), NineNoons.NULL);
        due.is("30: nothing then", x.item(2, 1, 0, 0), NineNoons.NULL);
    }

    private static void promise31() {
        NineNoons x = new NineNoons();
        x.sheet(0, 2, 5);
        due.is("31: sheet -1", x.item(-1, 2, 0, 0), NineNoons.BAD);
        due.is("31: sheet 4", x.item(4, 2, 0, 0), NineNoons.BAD);
        due.is("31: lane -1", x.item(0, -1, 0, 0), NineNoons.BAD);
        due.is("31: lane 4", x.item(1, 4, -1, 0), NineNoons.BAD);
        due.is("31: null", x.item(1, 2, -1, 0), NineNoons.NULL);
        due.is("31: cast", x.item(0, 1, -1, 0), NineNoons.CAST);
        due.is("31: index -1", x.item(0, 2, -1, 0), NineNoons.INDEX);
        due.is("31: index 5", x.item(0, 2, 5, 0), NineNoons.INDEX);
        due.is("31: index great", x.item(0, 2, Integer.MAX_VALUE, 0), NineNoons.INDEX);
        due.is("31: index least", x.item(0, 2, Integer.MIN_VALUE, 0), NineNoons.INDEX);
        due.is("31: first", x.item(0, 2, 0, Long.MIN_VALUE), 1);
        due.is("31: last", x.item(0, 2, 4, Long.MAX_VALUE), 1);
    }

    /** An item is seen by what is heard: 9, if its bits above a lane's are lost. */
    private static void promise31Bits() {
        NineNoons x = Due.of("p5+4");
        for (int lane = 0; lane < 4; lane++) {
            x.sheet(0, lane, 1);
            for (int bit = 6; bit < 64; bit++) {
                x.item(0, lane, 0, 9L | 1L << bit);
                due.is("31: lane " + lane + ", bit " + bit, x.heard(0, 0, lane, 0, 1, 1), bit < BITS[lane] ? 0 : 1 << 13);
            }
        }
    }

    private static String row(NineNoons x, int sheet, int length) {
        StringBuilder told = new StringBuilder();
        for (int i = 0; i < length; i++) {
            told.append(read(x, sheet, 1, i)).append(' ');
        }
        return told.toString();
    }

    private static NineNoons twoRows() {
        NineNoons x = Due.of("p0+0");
        x.sheet(0, 1, 6);
        x.sheet(1, 1, 4);
        for (int i = 0; i < 6; i++) {
            x.item(0, 1, i, 10 + i);
        }
        for (int i = 0; i < 4; i++) {
            x.item(1, 1, i, 20 + i);
        }
        return x;
    }

    private static void rows(String call, NineNoons x, String first, String second) {
        String told = row(x, 0, 6) + "/ " + row(x, 1, 4);
        due.isTrue(call + ": " + told, told.equals(first + " / " + second + " "));
    }

    private static void promise32() {
        NineNoons x = twoRows();
        due.is("32: copy", x.copy(0, 1, 1, 0, 3), 3);
        rows("32: to another", x, "10 11 12 13 14 15", "11 12 13 23");
        NineNoons up = twoRows();
        due.is("32: copy", up.copy(0, 0, 0, 2, 4), 4);
        rows("32: to the same, up", up, "10 11 10 11 12 13", "20 21 22 23");
        NineNoons down = twoRows();
        due.is("32: copy", down.copy(0, 2, 0, 0, 4), 4);
        rows("32: to the same, down", down, "12 13 14 15 14 15", "20 21 22 23");
        NineNoons none = twoRows();
        due.is("32: none, at the ends", none.copy(0, 6, 1, 4, 0), 0);
        due.is("32: all", none.copy(1, 0, 0, 2, 4), 4);
        rows("32: all", none, "10 11 20 21 22 23", "20 21 22 23");
    }

    private static void promise32Refused() {
        NineNoons x = twoRows();
        x.sheet(2, 0, 6);
        due.is("32: from -1", x.copy(-1, 0, 0, 0, 0), NineNoons.BAD);
        due.is("32: from 4", x.copy(4, 0, 3, 0, 0), NineNoons.BAD);
        due.is("32: to -1", x.copy(0, 0, -1, 0, 0), NineNoons.BAD);
        due.is("32: to 4", x.copy(3, 0, 4, 0, 0), NineNoons.BAD);
        due.is("32: null from", x.copy(3, -1, 0, 0, 0), NineNoons.NULL);
        due.is("32: null to", x.copy(0, -1, 3, 0, 0), NineNoons.NULL);
        due.is("32: cast", x.copy(0, -1, 2, 0, 0), NineNoons.CAST);
        int[][] index = {{-1, 0, 1}, {0, -1, 1}, {0, 0, -1}, {6, 0, 1}, {0, 4, 1}, {0, 0, 5}, {3, 0, 4}, {0, 1, 4},
            {7, 0, 0}, {0, 5, 0}, {-1, 0, 0}, {Integer.MAX_VALUE, 0, 2}, {0, Integer.MAX_VALUE, 2},
            {0, 0, Integer.MAX_VALUE}, {1, 1, Integer.MAX_VALUE}, {0, 0, Integer.MIN_VALUE}};
        for (int[] b : index) {
            due.is("32: index", x.copy(0, b[0], 1, b[1], b[2]), NineNoons.INDEX);
        }
        rows("32: nothing changed", x, "10 11 12 13 14 15", "20 21 22 23");
    }
}
