/** A valley as a text (part 3) and promise 6: a test for each sentence that names an edge. */
public final class EdgeTextTest {
    private static final Due due = new Due();
    private static final Edge edge = new Edge(due);
    private static final String DIGITS = "0123456789";
    private static final String FIVE = "p1+1,s2-2,h3+3,f4-4,c5+5,";

    public static void main(String[] args) {
        lettersThatStandSomewhere();
        lettersBehindSixVillages();
        oneToSixVillages();
        kindsByLetters();
        minutesAsTold();
        milesAsTold();
        driftsAsTold();
        noThirdDigit();
        firstOfTwoFaults();
        theEnd();
        blanksCountForNothing();
        blanksEndANumber();
        blanksAheadOfAFault();
        inPlaceOfAll();
        dayZeroAndTheDrawStays();
        theTapeIsEmptyThen();
        aFaultLeavesAllElse();
        oldLettersAreGone();
        sixtyLetters();
        due.end();
    }

    private static int answer(String text) {
        return Due.valley(new NineNoons(), text);
    }

    private static void is(String sentence, String text, int want) {
        due.is("6: " + sentence + ": '" + text + "'", answer(text), want);
    }

    /** Which letters can stand behind a text of some villages; whether it is whole, and whether by such a letter. */
    private static void stands(String text, String letters, int villages, boolean whole, boolean wholeThen) {
        for (char letter = 32; letter <= 126; letter++) {
            int want;
            if (letter == ' ') {
                want = whole ? villages : -21 - text.length();
            } else if (letters.indexOf(letter) >= 0) {
                want = wholeThen && letter != ',' ? villages : -21 - text.length();
            } else {
                want = -20 - text.length();
            }
            // A comma wants another village, and @ wants miles: neither ends a valley.
            if (letter == '@' && letters.indexOf('@') >= 0) {
                want = -21 - text.length();
            }
            is("the first letter that can't stand there", text + letter, want);
        }
    }

    private static void lettersThatStandSomewhere() {
        stands("", "pshfc", 0, false, false);
        stands("p", DIGITS, 0, false, false);
        stands("p5", DIGITS + "+-", 0, false, false);
        stands("p59", "+-", 0, false, false);
        stands("p5 ", "+-", 0, false, false);
        stands("p5+", DIGITS, 1, false, true);
        stands("p5-", DIGITS, 1, false, true);
        stands("p5+1", "@,", 1, true, false);
        stands("p5+1@", DIGITS, 1, false, true);
        stands("p5+1@3", DIGITS + ",", 1, true, true);
        stands("p5+1@40", ",", 1, true, false);
        stands("p5+1@3 ", ",", 1, true, false);
        stands("p5+1,", "pshfc", 1, false, false);
        stands("p5+1,c", DIGITS, 1, false, false);
    }

    private static void lettersBehindSixVillages() {
        stands(FIVE + "p6+6", "@", 6, true, false);
        stands(FIVE + "p6+6@", DIGITS, 6, false, true);
        stands(FIVE + "p6+6@4 ", "", 6, true, false);
        stands(FIVE + "p6+6@40", "", 6, true, false);
        is("1 to 6 VILLAGES: not a seventh", FIVE + "p6+6,p7+7", -49);
        is("1 to 6 VILLAGES: not a seventh", FIVE + "p6+6 , p7+7", -50);
    }

    private static void oneToSixVillages() {
        String text = "";
        for (int villages = 1; villages <= 6; villages++) {
            text += (villages == 1 ? "" : ",") + "p" + villages + "+1";
            is("1 to 6 VILLAGES with , between", text, villages);
            NineNoons x = Due.of(text);
            due.is("6: how many VILLAGES", x.count(0), villages);
            due.is("6: the last one", x.of(villages - 1, 1), villages);
            due.is("6: no more", x.of(villages, 1), NineNoons.BAD);
        }
        is("1 to 6 VILLAGES: none", "", -20);
        is("1 to 6 VILLAGES: none", ",", -20);
    }

    private static void kindsByLetters() {
        for (int kind = 0; kind < 5; kind++) {
            NineNoons x = Due.of("pshfc".charAt(kind) + "5+1," + "pshfc".charAt(4 - kind) + "6+1");
            due.is("6: p s h f c (PLAIN, SLOW, HEARER, FOGGY, COUSIN)", x.of(0, 0), kind);
            due.is("6: p s h f c (PLAIN, SLOW, HEARER, FOGGY, COUSIN)", x.of(1, 0), 4 - kind);
        }
        for (char letter : "PSHFC".toCharArray()) {
            is("no great letters", letter + "5+1", -20);
        }
    }

    private static void minutesAsTold() {
        for (int number = 0; number < 100; number++) {
            String two = (number < 10 ? "0" : "") + number;
            for (String written : new String[] {"" + number, two}) {
                is("a number 0 .. 59", "p" + written + "+1", number <= 59 ? 1 : -21);
                is("a number 0 .. 59, of another village", "p1+1, p" + written + "+1", number <= 59 ? 2 : -27);
                if (number <= 59) {
                    due.is("6: MINUTE " + written, Due.of("p" + written + "+1").of(0, 1), number);
                }
            }
        }
    }

    private static void milesAsTold() {
        for (int number = 0; number < 100; number++) {
            String two = (number < 10 ? "0" : "") + number;
            for (String written : new String[] {"" + number, two}) {
                is("a number 0 .. 40", "p5+1@" + written, number <= 40 ? 1 : -25);
                is("a number 0 .. 40, behind a blank", "p5+1@ " + written + ",p1+1", number <= 40 ? 2 : -26);
                if (number <= 40) {
                    due.is("6: MILES " + written, Due.of("p5+1@" + written).of(0, 3), number);
                }
            }
        }
        due.is("6: MILES; else 0", Due.of("p5+1@40,p5+1,p5+1@40").of(1, 3), 0);
        due.is("6: MILES; else 0", Due.of("p5+1,p5+1@40").of(0, 3), 0);
    }

    private static void driftsAsTold() {
        for (int digit = 0; digit <= 9; digit++) {
            due.is("6: + and a digit", Due.of("p5+" + digit).of(0, 2), 9 + digit);
            due.is("6: - and a digit", Due.of("p5-" + digit).of(0, 2), 9 - digit);
            is("a digit, not two", "p5+1" + digit, -24);
            is("a digit, not two, behind a blank", "p5-1 " + digit, -25);
        }
    }

    private static void noThirdDigit() {
        for (int digit = 0; digit <= 9; digit++) {
            is("a third one can't stand there", "p59" + digit, -23);
            is("a third one can't stand there", "p00" + digit + "+1", -23);
            is("a third one can't stand there", "p5+1@40" + digit, -27);
            is("a third one can't stand there", "p5+1@00" + digit, -27);
        }
    }

    private static void firstOfTwoFaults() {
        is("of the number's first digit, ahead of the third", "p600", -21);
        is("of the number's first digit, ahead of the third", "p5+1@410", -25);
        is("of the number's first digit, ahead of what is behind it", "p60x", -21);
        is("of the number's first digit, ahead of what is behind it", "p60", -21);
        is("of the number's first digit, ahead of the end", "p5+1@99,", -25);
        is("the first letter, ahead of a number behind it", "x60", -20);
        is("the first letter, ahead of a number behind it", "p5*60", -22);
        is("the first of two numbers", "p60+1@41", -21);
        is("the first of two villages", "p5+1@41,p60", -25);
        is("the first of two villages", "p5+1,p60,p60", -26);
    }

    private static void theEnd() {
        String whole = "p12+3@40,s7-2";
        for (int length = 0; length <= whole.length(); length++) {
            // Whole behind "+3", "@4", "@40", "-2".
            int villages = length == 5 || length == 7 || length == 8 ? 1 : length == 13 ? 2 : 0;
            is("the end: how many there are", whole.substring(0, length), villages > 0 ? villages : -20 - length);
        }
        for (int blanks = 0; blanks <= 58; blanks++) {
            is("the end: how many there are, blanks too", " ".repeat(blanks), -20 - blanks);
            is("the end: how many there are, blanks too", "p5" + " ".repeat(blanks), -22 - blanks);
        }
    }

    private static void blanksCountForNothing() {
        String whole = "p12+3@40,s7-2";
        for (int place = 0; place <= whole.length(); place++) {
            if (place == 2 || place == 7) {
                continue;
            }
            for (int blanks = 1; blanks <= 3; blanks++) {
                String text = whole.substring(0, place) + " ".repeat(blanks) + whole.substring(place);
                is("blanks count for nothing", text, 2);
                NineNoons x = new NineNoons();
                Due.valley(x, text);
                due.isTrue("6: blanks count for nothing: '" + text + "'", x.of(0, 1) == 12 && x.of(0, 2) == 12
                    && x.of(0, 3) == 40 && x.of(1, 1) == 7 && x.of(1, 2) == 7 && x.of(1, 3) == 0);
            }
        }
    }

    private static void blanksEndANumber() {
        for (int blanks = 1; blanks <= 3; blanks++) {
            String gap = " ".repeat(blanks);
            is("blanks end a number", "p1" + gap + "2+3", -22 - blanks);
            is("blanks end a number", "p12+3@4" + gap + "0", -27 - blanks);
            is("blanks end a number, which is not as told without", "p6" + gap + "0+1", -22 - blanks);
            is("blanks end a number of two digits", "p12" + gap + "3", -23 - blanks);
        }
    }

    private static void blanksAheadOfAFault() {
        for (int blanks = 0; blanks <= 3; blanks++) {
            String gap = " ".repeat(blanks);
            is("the place of the letter (behind blanks)", gap + "x", -20 - blanks);
            is("the place of the letter (behind blanks)", "p" + gap + "x", -21 - blanks);
            is("the place of the letter (behind blanks)", "p5" + gap + "x", -22 - blanks);
            is("the place of the letter (behind blanks)", "p5+" + gap + "x", -23 - blanks);
            is("the place of the letter (behind blanks)", "p5+1" + gap + "x", -24 - blanks);
            is("the place of the letter (behind blanks)", "p5+1@" + gap + "x", -25 - blanks);
            is("the place of the letter (behind blanks)", "p5+1@3" + gap + "x", -26 - blanks);
            is("the place of the letter (behind blanks)", "p5+1," + gap + "x", -25 - blanks);
            is("the place of the digit (behind blanks)", "p" + gap + "60", -21 - blanks);
            is("the place of the digit (behind blanks)", "p5+1@" + gap + "41", -25 - blanks);
        }
    }

    private static void inPlaceOfAll() {
        NineNoons x = Due.of("p1+1@40,p2+2@40,p3+3@40,p4+4@40,p5+5@40,p6+6@40");
        due.is("6: in place of all", Due.valley(x, "h0-0,c9-9@1"), 2);
        int[][] want = {{2, 0, 9, 0}, {4, 9, 0, 1}};
        for (int village = 0; village < 2; village++) {
            for (int what = 0; what < 4; what++) {
                due.is("6: in place of all", x.of(village, what), want[village][what]);
            }
        }
        due.is("6: in place of all", x.of(2, 0), NineNoons.BAD);
        due.is("6: in place of all: a new one has number 2", x.village(0, 0, 0), 2);
        due.is("6: in place of all: at MILES 0", x.of(2, 3), 0);
    }

    private static void dayZeroAndTheDrawStays() {
        NineNoons x = Scene.TAPELESS.make();
        x.days(3);
        due.is("6: a VALLEY", Due.valley(x, "f0+4"), 1);
        due.is("6: DAY 0", x.count(1), 0);
        due.is("6: DAY 0, so FOGGY as SLOW", x.of(0, 4), 32);
        due.is("6: a VALLEY leaves nothing to be UNDONE", x.count(6), 0);
        due.is("6: a VALLEY leaves nothing to be UNDONE", x.undo(), NineNoons.NONE);
        due.is("6: THE DRAW stays", x.seed(1), 77);
        due.is("6: a SHEET stays", x.drop(0), 8);
        due.is("6: the IMAGE stays", x.restore(), 1);
        due.is("6: the IMAGE stays", x.of(0, 1), 31);
        due.is("6: what was to be UNDONE then stays in the IMAGE", x.count(6), 3);
    }

    private static void theTapeIsEmptyThen() {
        NineNoons x = new NineNoons();
        due.is("6: a VALLEY", Due.valley(x, "p5+1"), 1);
        due.is("6: THE TAPE is empty then", x.type(' '), 1);
        due.is("6: a FAULT", Due.valley(x, "p60"), -22);
        due.is("6: THE TAPE is empty then, of a FAULT too", x.type(' '), 1);
        due.is("6: a FAULT", x.valley(), -21);
        due.is("6: an empty TAPE is no VALLEY", x.valley(), -20);
        due.is("6: and the one there stays", x.of(0, 1), 5);
    }

    private static void aFaultLeavesAllElse() {
        for (String text : new String[] {"", "x", "p", "p60", "p1+1,p2+2,p3+3,", "p1+1@41", FIVE + "p6+6,p7+7"}) {
            edge.becomes("6: a FAULT (all else stays): '" + text + "'", Scene.TAPELESS, x -> Due.valley(x, text), Scene.TAPELESS);
        }
        edge.becomes("6: a FAULT empties THE TAPE", Scene.BUSY, x -> Due.valley(x, "x"), Scene.TAPELESS);
        edge.becomes("6: a FAULT of no VILLAGES", Scene.EMPTY, x -> Due.valley(x, "p1+1,"), Scene.EMPTY);
    }

    private static void oldLettersAreGone() {
        NineNoons x = new NineNoons();
        Due.valley(x, "p59-8@39,s12+3@20");
        String[] texts = {"", "p", "p5", "p5-", "p59-8@", "p59-8@39,", "p59-8@39,s12", "p59-8@39,s12+3@"};
        for (String text : texts) {
            due.is("6: letters of the last TAPE are gone: '" + text + "'", Due.valley(x, text), -20 - text.length());
        }
        due.is("6: letters of the last TAPE are gone", Due.valley(x, "p5-8@3"), 1);
        due.is("6: letters of the last TAPE are gone", x.of(0, 3), 3);
        due.is("6: letters of the last TAPE are gone", Due.valley(x, "p59-8"), 1);
        due.is("6: letters of the last TAPE are gone", x.of(0, 3), 0);
    }

    private static void sixtyLetters() {
        String[] ends = {"p6+1", "p60", "p6", "p", "p6+", "p6+1@", "p6+1@4", "p6+1@40", "p6+1@41", "p6+1,", "x", " ", "p6+1x"};
        int[] villages = {1, 0, 0, 0, 0, 0, 1, 1, 0, 0, 0, 0, 0};
        int[] faults = {0, 58, 60, 60, 60, 60, 0, 0, 58, 60, 59, 60, 59};
        for (int i = 0; i < ends.length; i++) {
            String text = " ".repeat(60 - ends[i].length()) + ends[i];
            is("60 letters", text, villages[i] > 0 ? villages[i] : -20 - faults[i]);
        }
        String dense = FIVE + "p59-9@40";
        is("60 letters, with six villages", dense + " ".repeat(60 - dense.length()), 6);
    }
}
