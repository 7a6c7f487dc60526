/** Long runs of calls, ordinary ones, edges and wrong ones, on PrickedPages and PlainModel side by side. */
public final class ModelTest {
    private static final Check check = new Check("ModelTest");
    private static final int RUNS = 600, CALLS = 512;
    private static final int[] ODD = {Integer.MIN_VALUE, Integer.MAX_VALUE, -1, -2, 64, 256, 1000, 49, 0};
    private static long seed = 20261119;

    private final PrickedPages x = new PrickedPages();
    private final PlainModel model = new PlainModel();
    private final int run;

    private ModelTest(int run) {
        this.run = run;
    }

    public static void main(String[] args) {
        for (int run = 0; run < RUNS; run++) {
            ModelTest test = new ModelTest(run);
            test.begin();
            for (int call = 0; call < CALLS; call++) {
                test.callOne();
            }
            test.due("digest()", test.x.digest(), test.model.digest());
        }
        check.end();
    }

    // A row of numbers that is the same at each run of the test.
    private static int below(int n) {
        seed = seed * 6364136223846793005L + 1442695040888963407L;
        return (int) ((seed >>> 33) % n);
    }

    private static int from(int least, int most) {
        return below(60) == 0 ? ODD[below(ODD.length)] : least + below(most - least + 1);
    }

    private void due(String call, long got, long want) {
        check.due("run " + run + ": " + call, got, want);
    }

    private void begin() {
        if (run % 3 == 0) {
            // Few points, so that signs and words resemble one another.
            for (int letter = 0; letter < 10; letter++) {
                int v = 1 + below(run % 2 == 0 ? 63 : 12);
                due("sign", x.sign(letter, v), model.sign(letter, v));
            }
        }
        words(1 + below(8), 1 + below(6));
        page(below(25));
    }

    private void bytes(int text, String bytes) {
        due("wipe", x.wipe(text), model.wipe(text));
        for (char c : bytes.toCharArray()) {
            due("type", x.type(text, c), model.type(text, c));
        }
    }

    private void words(int many, int longest) {
        int letters = below(3) == 0 ? 10 : 3 + below(7);
        StringBuilder text = new StringBuilder();
        for (int w = 0; w < many; w++) {
            text.append(w == 0 ? "" : ";");
            for (int n = 1 + below(longest); n > 0; n--) {
                text.append((char) ('a' + below(letters)));
            }
        }
        if (below(12) == 0) {
            text.insert(below(text.length() + 1), ";kabc.".charAt(below(6)));
        }
        bytes(1, text.toString());
    }

    private void page(int many) {
        StringBuilder text = new StringBuilder();
        int letters = 2 + below(9);
        for (int i = 0; i < many; i++) {
            text.append(below(4) == 0 ? '.' : (char) ('a' + below(letters)));
        }
        if (below(20) == 0) {
            text.append("k;A\u00ff".charAt(below(4)));
        }
        bytes(0, text.toString());
    }

    private void callOne() {
        int kind = below(60);
        if (kind < 16) {
            changeLetters(kind);
        } else if (kind < 40) {
            ask(kind);
        } else {
            changeSheets(kind);
        }
    }

    private void changeLetters(int kind) {
        int a = from(0, 9), b = from(0, 5), c = from(0, 1), d = from(0, 63), e = from(0, 23), f = from(0, 99);
        switch (kind) {
            case 0 -> due("type " + c + " ." + a, x.type(c, '.' + a), model.type(c, '.' + a));
            case 1 -> { if (below(8) == 0) words(below(9) + 1, 6); }
            case 2 -> { if (below(8) == 0) page(below(25)); }
            case 3 -> due("fault " + c, x.fault(c), model.fault(c));
            case 4 -> due("sign " + a + " " + d, x.sign(a, d), model.sign(a, d));
            case 5 -> { if (below(4) == 0) due("read " + b, x.read(b), model.read(b)); }
            case 6, 7, 8 -> due("slip " + e + " " + b + " " + c, x.slip(e, b, c), model.slip(e, b, c));
            case 9, 10 -> due("undo", x.undo(), model.undo());
            case 11 -> due("set " + c + " " + a, x.set(c, a), model.set(c, a));
            case 12 -> due("often " + b + " " + f, x.often(b, f), model.often(b, f));
            case 13, 14 -> due("hand " + c + " " + b + " " + f, x.hand(c + a % 2, b, f), model.hand(c + a % 2, b, f));
            default -> due("type " + c + " a" + a, x.type(c, 'a' + a), model.type(c, 'a' + a));
        }
    }

    private void ask(int kind) {
        int place = from(0, Math.max(0, x.count(0))), word = from(0, Math.max(0, x.count(1) - 1));
        int c = from(0, 1), most = from(0, 12), many = from(0, 8), s = from(0, 3);
        switch (kind) {
            case 16 -> due("cell " + place, x.cell(place), model.cell(place));
            case 17 -> due("letter " + place, x.letter(place), model.letter(place));
            case 18 -> due("judged", x.judged(), model.judged());
            case 19 -> due("wrong " + place, x.wrong(place), model.wrong(place));
            case 20 -> due("mirrored " + place, x.mirrored(place * 3), model.mirrored(place * 3));
            case 21 -> due("both " + word, x.both(word), model.both(word));
            case 22 -> due("both NONE", x.both(-1), model.both(-1));
            case 23, 24 -> due("fits " + word + " " + place, x.fits(word, place), model.fits(word, place));
            case 25, 26 -> due("meant " + place + " " + c, x.meant(place, c), model.meant(place, c));
            case 27 -> due("within " + place + " " + most, x.within(place, most), model.within(place, most));
            case 28, 29 -> due("line " + c, x.line(c), model.line(c));
            case 30 -> due("slippery", x.slippery(), model.slippery());
            case 31 -> due("better " + most, x.better(most), model.better(most));
            case 32, 33 -> due("shorts " + many + " " + s, x.shorts(many, s), model.shorts(many, s));
            case 34, 35 -> due("under " + word + " " + place, x.under(word, place), model.under(word, place));
            case 36 -> due("clash " + s, x.clash(s), model.clash(s));
            case 37 -> due("whose", x.whose(), model.whose());
            case 38 -> due("wear " + many * 6, x.wear(many * 6, place), model.wear(many * 6, place));
            default -> due("wear NONE " + many * 6, x.wear(many * 6, -1), model.wear(many * 6, -1));
        }
    }

    private void changeSheets(int kind) {
        int s = from(0, 3), t = from(0, 3), form = from(0, 2), i = from(0, 24), j = from(0, 12), n = from(0, 48), v = from(0, 63);
        switch (kind) {
            case 40 -> due("sheet " + s + " " + form + " " + n, x.sheet(s, form, n), model.sheet(s, form, n));
            case 41 -> { if (below(4) == 0) due("lose " + s, x.lose(s), model.lose(s)); }
            case 42, 43, 44, 45 -> due("put " + s + " " + form + " " + i, x.put(s, form, i, v), model.put(s, form, i, v));
            case 46 -> due("put wide", x.put(s, form, i, v * 7919 - 99999), model.put(s, form, i, v * 7919 - 99999));
            case 47, 48, 49, 50 -> due("get " + s + " " + form + " " + i, x.get(s, form, i), model.get(s, form, i));
            case 51, 52, 53 -> due("copy " + s + " " + i + " " + t + " " + j, x.copy(s, i, t, j, n), model.copy(s, i, t, j, n));
            case 54 -> due("copy short", x.copy(s, j, s, i, j), model.copy(s, j, s, i, j));
            case 55 -> due("write " + s, x.write(s), model.write(s));
            case 56, 57 -> due("count " + j, x.count(j), model.count(j));
            case 58 -> due("count 8", x.count(8), model.count(8));
            default -> due("digest", x.digest(), model.digest());
        }
    }
}
