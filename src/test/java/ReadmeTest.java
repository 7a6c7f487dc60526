import java.io.IOException;
import java.lang.reflect.Method;
import java.nio.file.Files;
import java.nio.file.Path;
import java.util.regex.Matcher;
import java.util.regex.Pattern;

/** What README.md tells of the class: each call of its example answers so, each method is named. */
public final class ReadmeTest {
    private static final Check check = new Check("ReadmeTest");
    private static final Pattern EXAMPLE = Pattern.compile("(?s)```java\n(.*?)```");
    private static final Pattern CALL = Pattern.compile("x\\.(\\w+)\\(([^)]*)\\);");
    private static final Pattern DUE = Pattern.compile("// (-?\\w+): ");

    public static void main(String[] args) throws IOException, ReflectiveOperationException {
        String readme = Files.readString(Path.of("README.md"));
        example(readme);
        for (Method method : PrickedPages.class.getMethods()) {
            boolean own = method.getDeclaringClass() == PrickedPages.class;
            check.holds("README.md names " + method.getName(), !own || readme.contains("`" + method.getName() + "`"));
        }
        check.holds("README.md names .ci/run", readme.contains("\n.ci/run\n"));
        tests(readme);
        check.end();
    }

    private static void example(String readme) throws ReflectiveOperationException {
        Matcher block = EXAMPLE.matcher(readme);
        check.holds("README.md has an example", block.find());
        String[] lines = block.group(1).split("\n");
        check.due("it begins with a new object: " + lines[0], lines[0].indexOf("PrickedPages x = new PrickedPages();"), 0);
        PrickedPages x = new PrickedPages();
        for (int i = 1; i < lines.length; i++) {
            Matcher due = DUE.matcher(lines[i]);
            check.holds("an answer is told: " + lines[i], due.find());
            check.due(lines[i], lastAnswer(x, lines[i]), number(due.group(1)));
        }
    }

    private static long lastAnswer(PrickedPages x, String line) throws ReflectiveOperationException {
        Matcher call = CALL.matcher(line);
        long answer = 0;
        boolean found = false;
        while (call.find()) {
            found = true;
            answer = answer(x, call.group(1), call.group(2).isEmpty() ? new String[0] : call.group(2).split(", "));
        }
        check.holds("a call is told: " + line, found);
        return answer;
    }

    private static long answer(PrickedPages x, String name, String[] told) throws ReflectiveOperationException {
        Class<?>[] types = new Class<?>[told.length];
        Object[] values = new Object[told.length];
        for (int i = 0; i < told.length; i++) {
            types[i] = int.class;
            values[i] = number(told[i]);
        }
        return ((Number) PrickedPages.class.getMethod(name, types).invoke(x, values)).longValue();
    }

    private static int number(String told) {
        return switch (told) {
            case "NONE" -> PrickedPages.NONE;
            case "BAD" -> PrickedPages.BAD;
            case "NOT" -> PrickedPages.NOT;
            case "FULL" -> PrickedPages.FULL;
            default -> told.startsWith("'") ? told.charAt(1) : Integer.parseInt(told);
        };
    }

    private static void tests(String readme) throws IOException {
        try (var files = Files.list(Path.of("src/test/java"))) {
            for (Path file : files.toList()) {
                String name = file.getFileName().toString().replace(".java", "");
                check.holds("README.md names " + name, !name.endsWith("Test") || readme.contains("`" + name + "`"));
            }
        }
    }
}
