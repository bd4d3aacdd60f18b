import java.io.IOException;
import java.lang.reflect.Field;
import java.lang.reflect.Method;
import java.lang.reflect.Modifier;
import java.nio.file.DirectoryStream;
import java.nio.file.Files;
import java.nio.file.Path;
import java.util.HashMap;
import java.util.Map;
import java.util.regex.Matcher;
import java.util.regex.Pattern;

/** README.md: its example answers as it says, and it names every call, constant and test. */
public final class ReadmeTest {
    private static final Due due = new Due();
    private static final Path TESTS = Path.of("src/test/java");
    private static final Pattern TYPED = Pattern.compile("(?m)^for .*\"(.*)\".* x\\.type\\(letter\\);$");
    private static final Pattern CALL = Pattern.compile("(?m)^x\\.(\\w+)\\(([^)]*)\\); +// (-?\\d+)\\b.*$");

    public static void main(String[] args) throws IOException, ReflectiveOperationException {
        String page = Files.readString(Path.of("README.md"));
        example(page.substring(page.indexOf("```java"), page.lastIndexOf("```")));
        names(page);
        due.end();
    }

    private static Map<String, Method> calls() {
        Map<String, Method> calls = new HashMap<>();
        for (Method method : NineNoons.class.getDeclaredMethods()) {
            if (Modifier.isPublic(method.getModifiers())) {
                calls.put(method.getName(), method);
            }
        }
        return calls;
    }

    private static void example(String lines) throws ReflectiveOperationException {
        NineNoons x = new NineNoons();
        Matcher typed = TYPED.matcher(lines);
        due.isTrue("README: a text is typed", typed.find());
        Due.type(x, typed.group(1));
        Matcher call = CALL.matcher(lines);
        int told = 0;
        while (call.find()) {
            told++;
            due.is("README: " + call.group(), answer(x, call.group(1), call.group(2)), Long.parseLong(call.group(3)));
        }
        due.is("README: lines that are calls", told, lines.lines().filter(line -> line.startsWith("x.")).count());
        due.isTrue("README: has an example", told > 0);
    }

    /** A call whose numbers are all ints. */
    private static long answer(NineNoons x, String name, String numbers) throws ReflectiveOperationException {
        Method method = calls().get(name);
        String[] told = numbers.isEmpty() ? new String[0] : numbers.split(", ");
        Object[] arguments = new Object[told.length];
        for (int i = 0; i < told.length; i++) {
            arguments[i] = Integer.valueOf(told[i]);
        }
        return ((Number) method.invoke(x, arguments)).longValue();
    }

    private static void names(String page) throws IOException {
        for (String call : calls().keySet()) {
            due.isTrue("README: names the call " + call, page.contains("`" + call + "`"));
        }
        for (Field field : NineNoons.class.getFields()) {
            due.isTrue("README: names the constant " + field.getName(), page.contains("`" + field.getName() + "`"));
        }
        try (DirectoryStream<Path> tests = Files.newDirectoryStream(TESTS, "*Test.java")) {
            for (Path test : tests) {
                String name = test.getFileName().toString().replace(".java", "");
                due.isTrue("README: names the test " + name, page.contains("| " + name + " |"));
            }
        }
    }
}
