import java.io.IOException;
import java.nio.charset.StandardCharsets;
import java.nio.file.Files;
import java.nio.file.Path;
import java.util.ArrayList;
import java.util.List;
import java.util.Set;
import java.util.TreeSet;
import java.util.concurrent.TimeUnit;
import java.util.regex.Matcher;
import java.util.regex.Pattern;
import java.util.stream.Stream;

/**
 * Breaks one sentence of the document after the other in a copy of PrickedPages, by breaks.txt, and looks whether
 * EdgesTest fails under that very sentence. Run from the project's folder: java src/test/breaks/Breaks.java
 *
 * A break in breaks.txt: a line "= sentence", lines "- " with code as it stands (once in the file), lines "+ " with
 * what comes in its place. Not part of .ci/run: the breaks tell lines of code as they stand today.
 */
public final class Breaks {
    private static final Path MAIN = Path.of("src/main/java/PrickedPages.java");
    private static final Path TESTS = Path.of("src/test/java");
    private static final Path TABLE = Path.of("src/test/breaks/breaks.txt");

    private record Break(int line, String sentence, String from, String to) {}

    public static void main(String[] args) throws Exception {
        Path out = Files.createTempDirectory("breaks");
        List<Break> breaks = table();
        List<String> faults = breaks.parallelStream().map(b -> faultOf(b, out)).filter(f -> !f.isEmpty()).toList();
        faults.forEach(System.out::println);
        Set<String> left = sentences();
        breaks.forEach(b -> left.remove(b.sentence));
        left.forEach(s -> System.out.println("no break of: " + s));
        System.out.println(breaks.size() + " breaks, " + faults.size() + " not noticed, " + left.size() + " sentences without");
        System.exit(faults.isEmpty() && left.isEmpty() ? 0 : 1);
    }

    private static List<Break> table() throws IOException {
        List<Break> all = new ArrayList<>();
        List<String> lines = Files.readAllLines(TABLE);
        for (int i = 0; i < lines.size();) {
            if (!lines.get(i).startsWith("= ")) {
                i++;
                continue;
            }
            int begun = i++;
            List<String> from = new ArrayList<>();
            List<String> to = new ArrayList<>();
            for (; i < lines.size() && lines.get(i).startsWith("- "); i++) {
                from.add(lines.get(i).substring(2));
            }
            for (; i < lines.size() && lines.get(i).startsWith("+ "); i++) {
                to.add(lines.get(i).substring(2));
            }
            all.add(new Break(begun + 1, lines.get(begun).substring(2), String.join("\n", from), String.join("\n", to)));
        }
        return all;
    }

    /** The sentences that the tests stand under. */
    private static Set<String> sentences() throws IOException {
        Set<String> all = new TreeSet<>();
        try (Stream<Path> files = Files.list(TESTS)) {
            for (Path file : files.filter(f -> f.toString().endsWith("Edges.java")).toList()) {
                Matcher m = Pattern.compile("check\\.edge\\((.*?)\\);\n", Pattern.DOTALL).matcher(Files.readString(file));
                while (m.find()) {
                    String words = m.group(1).replaceAll("\"\\s*\\+\\s*\"", "");
                    all.add(words.substring(1, words.length() - 1));
                }
            }
        }
        return all;
    }

    private static String faultOf(Break b, Path out) {
        try {
            String code = Files.readString(MAIN);
            int place = code.indexOf(b.from);
            if (b.from.isEmpty() || place < 0 || code.indexOf(b.from, place + 1) >= 0) {
                return "line " + b.line + ": the code stands there not once: " + b.from;
            }
            Path folder = Files.createDirectory(out.resolve("break" + b.line));
            Path file = folder.resolve("PrickedPages.java");
            Files.writeString(file, code.substring(0, place) + b.to + code.substring(place + b.from.length()));
            Done compiled = run(List.of("javac", "-d", folder.toString(), "-sourcepath", TESTS.toString(), file.toString(),
                TESTS.resolve("EdgesTest.java").toString()), out);
            if (compiled.code != 0) {
                return "line " + b.line + ": does not compile: " + compiled.text;
            }
            Done tested = run(List.of("java", "-cp", folder.toString(), "EdgesTest"), out);
            if (tested.code == 0) {
                return "line " + b.line + ": no test fails: " + b.sentence;
            }
            return tested.text.contains("[" + b.sentence + "] ") ? "" : "line " + b.line + ": not under its own words: "
                + b.sentence + "\n" + tested.text.lines().limit(3).toList();
        } catch (IOException | InterruptedException e) {
            return "line " + b.line + ": " + e;
        }
    }

    private record Done(int code, String text) {}

    private static Done run(List<String> command, Path out) throws IOException, InterruptedException {
        Path told = Files.createTempFile(out, "told", ".txt");
        Process process = new ProcessBuilder(command).redirectErrorStream(true).redirectOutput(told.toFile()).start();
        if (!process.waitFor(60, TimeUnit.SECONDS)) {
            process.destroyForcibly();
            return new Done(-1, Files.readString(told, StandardCharsets.ISO_8859_1));
        }
        return new Done(process.exitValue(), Files.readString(told, StandardCharsets.ISO_8859_1));
    }
}
