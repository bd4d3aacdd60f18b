/** All that can be seen of an object, as texts. To look changes it, so each part is told of an object of its own. */
final class Witness {
    static final int PARTS = 3;

    private Witness() {
    }

    /** Part 0: the valley and what may be undone; 1: the same of the image; 2: the tape and the sheets. */
    static String told(NineNoons x, int part) {
        StringBuilder told = new StringBuilder();
        if (part == 0) {
            past(x, told);
        } else if (part == 1) {
            told.append("restore ").append(x.restore());
            past(x, told);
        } else {
            tape(x, told);
            sheets(x, told);
        }
        return told.toString();
    }

    private static void past(NineNoons x, StringBuilder told) {
        for (int undone = 0; undone < 10; undone++) {
            now(x, told);
            told.append(" draw ").append(x.seed(0));
            int left = x.undo();
            told.append(" undo ").append(left);
            if (left < 0) {
                return;
            }
        }
    }

    private static void now(NineNoons x, StringBuilder told) {
        int villages = x.count(0);
        told.append(" day ").append(x.count(1));
        for (int village = 0; village < villages; village++) {
            told.append(" village");
            for (int what = 0; what < 4; what++) {
                told.append(' ').append(x.of(village, what));
            }
        }
    }

    private static void tape(NineNoons x, StringBuilder told) {
        told.append("type ").append(x.type(' ')).append(" valley ").append(x.valley());
        now(x, told);
    }

    /** Items are read as the minutes of a village that is alone, by which drift it would ring so. */
    private static void sheets(NineNoons x, StringBuilder told) {
        Due.valley(x, "p9+0");
        for (int sheet = 0; sheet < 4; sheet++) {
            int lane = 0;
            while (lane < 3 && x.heard(0, sheet, lane, 0, 1, 1) == NineNoons.CAST) {
                lane++;
            }
            told.append(" sheet ").append(sheet).append(" lane ").append(lane);
            for (int item : items(x, sheet, lane)) {
                told.append(' ').append(item);
            }
            told.append(" drop ").append(x.drop(sheet));
        }
    }

    /** The items of a sheet: -1, where one is no minute. Village 0 has to be PLAIN and alone. */
    static int[] items(NineNoons x, int sheet, int lane) {
        int length = 0;
        while (length < 24 && x.heard(0, sheet, lane, length, 1, 1) >= 0) {
            length++;
        }
        int[] items = new int[length];
        java.util.Arrays.fill(items, -1);
        for (int minute : new int[] {9, 28, 47, 50}) {
            x.set(0, minute);
            for (int i = 0; i < length; i++) {
                int drifts = items[i] < 0 ? x.heard(0, sheet, lane, i, 1, 1) : 0;
                if (drifts != 0) {
                    items[i] = minute + Integer.numberOfTrailingZeros(drifts) - 9;
                }
            }
        }
        return items;
    }
}
