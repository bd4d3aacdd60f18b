import java.io.IOException;
import java.nio.file.Files;
import java.nio.file.Path;
import java.util.List;
import java.util.Random;
import java.util.Set;
import java.util.regex.Matcher;
import java.util.regex.Pattern;

/** Rules of LANGUAGE.md that can be seen in the source, and, by wild calls, that none ever throws (rule 7). */
public final class RulesTest {
    private static final Due due = new Due();
    private static final Path SOURCE = Path.of("src/main/java/NineNoons.java");
    private static final Set<String> LIBRARY = Set.of("Math.max", "Math.min", "Math.abs", "Math.floorMod",
        "Long.bitCount", "Long.numberOfTrailingZeros", "System.arraycopy");
    private static final String[] FORBIDDEN = {"package", "import", "try", "catch", "finally", "throw", "throws",
        "synchronized", "assert", "volatile", "native", "double", "float", "Object", "Thread", "Random", "protected",
        "equals", "hashCode", "toString", "getClass"};
    private static final int[] WILD = {Integer.MIN_VALUE, Integer.MIN_VALUE + 1, -65537, -61, -60, -25, -10, -2, -1, 0, 1, 2, 3,
        4, 5, 6, 7, 8, 9, 10, 11, 12, 23, 24, 25, 30, 31, 40, 41, 59, 60, 61, 112, 127, 65536, Integer.MAX_VALUE - 1,
        Integer.MAX_VALUE};

    public static void main(String[] args) throws IOException {
        String code = withoutComments(Files.readString(SOURCE));
        words(code);
        library(code);
        methodsStayShort(code);
        loopsHaveABound(code);
        noCallThrows();
        due.end();
    }

    private static String withoutComments(String text) {
        return text.replaceAll("(?s)/\\*.*?\\*/", "").replaceAll("//[^\n]*", "");
    }

    private static void words(String code) {
        for (String word : FORBIDDEN) {
            due.isTrue("rules 3 to 6: no " + word, !Pattern.compile("\\b" + word + "\\b").matcher(code).find());
        }
        due.isTrue("rule 2: no lambda", !code.contains("->"));
        due.isTrue("rule 2: no method reference", !code.contains("::"));
        due.isTrue("rule 5: no static initialiser", !Pattern.compile("static\\s*\\{").matcher(code).find());
        due.isTrue("rule 10: no text is joined", !code.contains("\""));
        due.is("rule 1: one public class", Pattern.compile("public final class").matcher(code).results().count(), 1);
    }

    private static void library(String code) {
        Matcher call = Pattern.compile("\\b[A-Z][a-z]\\w*\\.\\w+").matcher(code);
        while (call.find()) {
            due.isTrue("rule 4: " + call.group(), LIBRARY.contains(call.group()));
        }
    }

    /** A method begins and ends at the same indent of 4 or 8 blanks. */
    private static void methodsStayShort(String code) {
        List<String> lines = code.lines().toList();
        for (int i = 0; i < lines.size(); i++) {
            Matcher head = Pattern.compile("^( {4}| {8})(?! )[\\w ]*[\\w\\[\\]]+ (\\w+)\\(.*\\{$").matcher(lines.get(i));
            if (head.matches() && !head.group(2).matches("if|for|while|switch")) {
                int end = i;
                while (end < lines.size() && !lines.get(end).equals(head.group(1) + "}")) {
                    end++;
                }
                due.isTrue("rule 11: " + head.group(2) + " has " + (end - i + 1) + " lines", end - i < 60);
            }
        }
    }

    private static void loopsHaveABound(String code) {
        Matcher loop = Pattern.compile("\\b(for|while) \\(([^{]*)\\{").matcher(code);
        int loops = 0;
        while (loop.find()) {
            loops++;
            due.isTrue("rule 9: a counter against a bound: " + loop.group(), loop.group(2).matches("(?s).*\\b\\w+ <=? .*"));
        }
        due.isTrue("rule 9: loops were seen", loops > 20);
    }

    private static void noCallThrows() {
        for (int run = 0; run < 300; run++) {
            Random random = new Random(run);
            NineNoons x = random.nextBoolean() ? new NineNoons() : Due.of("p5+4@3,s12-7@12,h40+5@20,f58-6@9,c30+2@31,p21-1");
            for (int call = 0; call < 400; call++) {
                int[] a = new int[6];
                for (int i = 0; i < a.length; i++) {
                    // Small numbers most of the time, so that many calls are taken.
                    a[i] = random.nextInt(3) > 0 ? random.nextInt(9) : WILD[random.nextInt(WILD.length)];
                }
                int which = random.nextInt(31);
                try {
                    wild(x, which, a);
                } catch (RuntimeException | Error e) {
                    due.isTrue("rule 7: call " + which + " of " + java.util.Arrays.toString(a) + " threw " + e, false);
                }
            }
        }
    }

    private static long wild(NineNoons x, int which, int[] a) {
        switch (which) {
            case 0: return x.village(a[0], a[1], a[2]);
            case 1: return x.of(a[0], a[1]);
            case 2: return x.gap(a[0], a[1]);
            case 3: return x.type(a[0] < 9 && a[0] >= 0 ? "p5+1,@ 4s".charAt(a[0]) : a[0]);
            case 4: return x.valley();
            case 5: return x.count(a[0]);
            case 6: return x.days(a[0]);
            case 7: return x.set(a[0], a[1]);
            case 8: return x.move(a[0], a[1]);
            case 9: return x.tune(a[0], a[1]);
            case 10: return x.storm(a[0]);
            case 11: return x.undo();
            case 12: return x.seed(a[0]);
            case 13: return x.ahead(a[0], a[1]);
            case 14: return x.near(a[0]);
            case 15: return x.meet(a[0], a[1]);
            case 16: return x.together(a[0]);
            case 17: return x.fix(a[0], a[1]);
            case 18: return x.free(a[0], a[1]);
            case 19: return x.hear(a[0], a[1], a[2], a[3]);
            case 20: return x.again();
            case 21: return x.worst(a[0]);
            case 22: return x.fog(a[0], a[1]);
            case 23: return x.image();
            case 24: return x.restore();
            case 25: return x.heard(a[0], a[1], a[2], a[3], a[4], a[5]);
            case 26: return x.film(a[0], a[1], a[2], a[3], a[4]);
            case 27: return x.sheet(a[0], a[1], a[2]);
            case 28: return x.drop(a[0]);
            case 29: return x.item(a[0], a[1], a[2], (long) a[3] * a[4]);
            default: return x.copy(a[0], a[1], a[2], a[3], a[4]);
        }
    }
}
