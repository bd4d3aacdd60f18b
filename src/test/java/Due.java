/** Counts and prints the calls whose answer is not the one that is due. */
final class Due {
    private int wrong = 0;
    private int calls = 0;

    void is(String call, long got, long want) {
        calls++;
        if (got != want) {
            wrong++;
            System.out.println(call + " answered " + got + ", due is " + want);
        }
    }

    void isTrue(String what, boolean holds) {
        is(what, holds ? 1 : 0, 1);
    }

    void minutes(String call, NineNoons x, String want) {
        String got = minutes(x);
        isTrue(call + ": minutes " + got + ", due are " + want, got.equals(want));
    }

    /** Ends the test: with exit code 1, if an answer was wrong. */
    void end() {
        System.out.println(wrong == 0 ? calls + " answers are as due" : wrong + " answers are not as due");
        if (wrong != 0) {
            System.exit(1);
        }
    }

    static void type(NineNoons x, String text) {
        for (char letter : text.toCharArray()) {
            x.type(letter);
        }
    }

    /** Types a text and reads it as a valley. */
    static int valley(NineNoons x, String text) {
        type(x, text);
        return x.valley();
    }

    /** A new object with the valley of a text. */
    static NineNoons of(String text) {
        NineNoons x = new NineNoons();
        int answer = valley(x, text);
        if (answer < 1) {
            throw new IllegalArgumentException(text + ": " + answer);
        }
        return x;
    }

    /** A new object with the valley of a text and a row of ints at sheet 0. */
    static NineNoons withRow(String text, long... items) {
        NineNoons x = of(text);
        x.sheet(0, 2, items.length);
        for (int i = 0; i < items.length; i++) {
            x.item(0, 2, i, items[i]);
        }
        return x;
    }

    /** Any number of days, as 40 at most go by in one call. */
    static void passDays(NineNoons x, int n) {
        for (int left = n; left > 0; left -= 40) {
            x.days(Math.min(left, 40));
        }
    }

    /** What THE DRAW becomes ahead of a day of a storm. */
    static long nextDraw(long draw) {
        return (draw * 1103515245L + 12345L) % (1L << 31);
    }

    static String minutes(NineNoons x) {
        StringBuilder told = new StringBuilder();
        for (int village = 0; village < x.count(0); village++) {
            told.append(village == 0 ? "" : " ").append(x.of(village, 1));
        }
        return told.toString();
    }
}
