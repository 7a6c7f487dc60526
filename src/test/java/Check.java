import java.io.IOException;
import java.nio.file.Files;
import java.nio.file.Path;
import java.util.function.IntUnaryOperator;

/** Compares answers with those that are due, and ends the test with exit code 1 if one was wrong. */
final class Check {
    static final int LEAST = Integer.MIN_VALUE, GREATEST = Integer.MAX_VALUE;
    private static final int MOST_TOLD = 40;

    private final String test;
    private String sentence = "";
    private String document;
    private int wrong;
    private int told;
    private int asked;
    private int sentences;

    Check(String test) {
        this.test = test;
    }

    /** What follows looks at this sentence of the document; its words must stand there (where it is at hand). */
    void edge(String words) {
        sentence = "";
        told = 0;
        holds("the document says: " + words, document().isEmpty() || document().contains(words));
        sentence = "[" + words + "] ";
        sentences++;
    }

    private String document() {
        if (document == null) {
            try {
                document = Files.readString(Path.of("../shared/DOC.md")).replaceAll("\\s+", " ");
            } catch (IOException gone) {
                document = "";
            }
        }
        return document;
    }

    void due(String call, long got, long want) {
        asked++;
        if (got != want) {
            wrong++;
            told++;
            if (told <= MOST_TOLD) {
                System.out.println(test + ": " + sentence + call + " answered " + got + ", due is " + want);
            }
        }
    }

    void holds(String what, boolean holds) {
        due(what, holds ? 1 : 0, 1);
    }

    /** Numbers that are not as told: each is answered BAD, and so are the least and the greatest int. */
    void bad(String call, IntUnaryOperator answer, int... numbers) {
        for (int v : numbers) {
            due(call + " of " + v, answer.applyAsInt(v), PrickedPages.BAD);
        }
        due(call + " of the least int", answer.applyAsInt(LEAST), PrickedPages.BAD);
        due(call + " of the greatest int", answer.applyAsInt(GREATEST), PrickedPages.BAD);
    }

    void end() {
        String of = sentences == 0 ? "" : " of " + sentences + " sentences";
        System.out.println(test + ": " + asked + " answers" + of + " looked at, " + wrong + " wrong");
        if (wrong != 0) {
            System.exit(1);
        }
    }

    /** A new object with these texts. */
    static PrickedPages with(String page, String words) {
        PrickedPages x = new PrickedPages();
        type(x, 0, page);
        type(x, 1, words);
        return x;
    }

    /** A new object whose first LETTERS have these SIGNS. */
    static PrickedPages signed(int... signs) {
        PrickedPages x = new PrickedPages();
        for (int letter = 0; letter < signs.length; letter++) {
            x.sign(letter, signs[letter]);
        }
        return x;
    }

    static void type(PrickedPages x, int text, String bytes) {
        for (int i = 0; i < bytes.length(); i++) {
            x.type(text, bytes.charAt(i));
        }
    }

    static void row(PrickedPages x, int s, int form, int... items) {
        x.sheet(s, form, items.length);
        for (int i = 0; i < items.length; i++) {
            x.put(s, form, i, items[i]);
        }
    }
}
