import java.io.IOException;
import java.lang.reflect.Constructor;
import java.lang.reflect.Field;
import java.lang.reflect.Method;
import java.lang.reflect.Modifier;
import java.nio.file.Files;
import java.nio.file.Path;
import java.util.Set;
import java.util.TreeSet;
import java.util.regex.Matcher;
import java.util.regex.Pattern;

/** The public face of the class, and those rules of LANGUAGE.md that a test can look at. */
public final class FaceTest {
    private static final Check check = new Check("FaceTest");
    private static final Set<String> FACE = Set.of("type(II)I", "wipe(I)I", "fault(I)I", "sign(II)I", "read(I)I",
        "slip(III)I", "undo()I", "set(II)I", "often(II)I", "cell(I)I", "letter(I)I", "judged()I", "wrong(I)I",
        "mirrored(I)I", "both(I)I", "fits(II)I", "meant(II)I", "within(II)I", "line(I)I", "slippery()I", "better(I)I",
        "shorts(II)I", "under(II)I", "clash(I)I", "hand(III)I", "whose()I", "wear(II)I", "sheet(III)I", "lose(I)I",
        "put(IIII)I", "get(III)I", "copy(IIIII)I", "write(I)I", "count(I)I", "digest()J");

    private static final Pattern LIBRARY =
        Pattern.compile("\\b(Integer|Long|Math|System|Arrays|String|Character|Byte|Short|List)\\.\\w+");
    // Of what rule 4 lists, the names that the class has use for: constants of Integer are not among them.
    private static final Set<String> LISTED = Set.of("Integer.bitCount", "Math.max", "Math.min", "System.arraycopy",
        "Arrays.fill");

    public static void main(String[] args) throws IOException {
        constants();
        members();
        for (Class<?> inner : PrickedPages.class.getDeclaredClasses()) {
            innerClass(inner);
        }
        source();
        check.end();
    }

    private static void constants() {
        check.due("NONE", PrickedPages.NONE, -1);
        check.due("BAD", PrickedPages.BAD, -2);
        check.due("NOT", PrickedPages.NOT, -3);
        check.due("FULL", PrickedPages.FULL, -4);
    }

    private static void members() {
        Class<?> type = PrickedPages.class;
        check.holds("public and final", Modifier.isPublic(type.getModifiers()) && Modifier.isFinal(type.getModifiers()));
        Set<String> open = new TreeSet<>();
        Set<String> hidden = new TreeSet<>();
        for (Method method : type.getDeclaredMethods()) {
            if (Modifier.isPrivate(method.getModifiers())) {
                hidden.add(method.getName());
            } else {
                open.add(described(method));
                check.holds("public: " + method, method.getModifiers() == Modifier.PUBLIC);
            }
        }
        check.holds("the methods of the document alone: " + open, open.equals(FACE));
        for (String name : hidden) {
            check.holds("a name of its own: " + name, FACE.stream().noneMatch(f -> f.startsWith(name + "(")));
        }
        Constructor<?>[] constructors = type.getDeclaredConstructors();
        check.due("one constructor", constructors.length, 1);
        check.due("without parameters", constructors[0].getParameterCount(), 0);
        check.holds("a public one", Modifier.isPublic(constructors[0].getModifiers()));
        for (Field field : type.getDeclaredFields()) {
            int m = field.getModifiers();
            boolean told = Set.of("NONE", "BAD", "NOT", "FULL").contains(field.getName());
            check.holds("field " + field, told ? Modifier.isPublic(m) : Modifier.isPrivate(m));
            check.holds("static fields are final: " + field, !Modifier.isStatic(m) || Modifier.isFinal(m));
        }
    }

    private static String described(Method method) {
        StringBuilder text = new StringBuilder(method.getName()).append('(');
        for (Class<?> parameter : method.getParameterTypes()) {
            text.append(parameter.descriptorString());
        }
        return text.append(')').append(method.getReturnType().descriptorString()).toString();
    }

    private static void innerClass(Class<?> inner) {
        int m = inner.getModifiers();
        check.holds("static: " + inner, Modifier.isStatic(m));
        check.holds("private or package-visible: " + inner, !Modifier.isPublic(m) && !Modifier.isProtected(m));
        for (Method method : inner.getDeclaredMethods()) {
            check.holds("not toString and its like: " + method,
                !Set.of("equals", "hashCode", "toString").contains(method.getName()));
        }
    }

    private static void source() throws IOException {
        String text = Files.readString(Path.of("src/main/java/PrickedPages.java"));
        String code = text.replaceAll("(?s)/\\*.*?\\*/", " ").replaceAll("//[^\n]*", " ");
        for (String word : new String[] {"throw", "throws", "try", "catch", "finally", "synchronized", "assert", "System.out",
            "Math.\\w+Exact", "package", "float", "double"}) {
            check.holds("without " + word, !code.matches("(?s).*\\b" + word + "\\b.*"));
        }
        check.holds("without lambdas and method references", !code.contains("->") && !code.contains("::"));
        check.holds("without texts", !code.contains("\""));
        libraryNames(code);
        check.holds("the Arrays class alone", code.replaceAll("(?s)import java\\.util\\.Arrays;", "").indexOf("import ") < 0);
        methodLengths(code);
    }

    private static void libraryNames(String code) {
        Matcher name = LIBRARY.matcher(code);
        while (name.find()) {
            check.holds("LANGUAGE.md lists " + name.group(), LISTED.contains(name.group()));
        }
    }

    private static void methodLengths(String code) {
        int begun = -1;
        String[] lines = code.split("\n");
        for (int i = 0; i < lines.length; i++) {
            if (lines[i].matches(" {4,8}(public|private).*\\) \\{")) {
                begun = i;
            } else if (begun >= 0 && lines[i].matches(" {4,8}\\}") && indent(lines[i]) == indent(lines[begun])) {
                check.holds("short: " + lines[begun].trim(), i - begun <= 60);
                begun = -1;
            }
        }
    }

    private static int indent(String line) {
        return line.length() - line.stripLeading().length();
    }
}
