import java.util.function.ToIntFunction;

/** The sentence on refusals at the end of the terms: which comes first, and that they change nothing. */
final class RefusalEdges {
    private static final int LEAST = Check.LEAST, FIRST_FINDING = 4;
    private final Check check;

    RefusalEdges(Check check) {
        this.check = check;
    }

    void all() {
        order();
        changeNothing();
        changeNothingOfLetters();
        changeNothingOfQuestions();
        changeNothingOfSheets();
        changeNothingOfNew();
    }

    private void order() {
        check.edge("Refusals, the first that fits, in the order told at each act: BAD -2 (a number not as told, no such thing), "
            + "NULL, NOT -3 (as told), FULL -4, other FINDINGS.");
        PrickedPages x = full();
        check.due("type: BAD, FULL", x.type(0, 256), -2);
        check.due("type: FULL", x.type(0, 255), -4);
        check.due("slip: BAD, FULL", x.slip(24, 0, 0), -2);
        check.due("slip: FULL", x.slip(23, 0, 0), -4);
        check.due("put: BAD, NULL", x.put(3, 3, 9, 0), -2);
        check.due("put: NULL, CAST, INDEX", x.put(3, 0, 9, 0), -11);
        check.due("put: CAST, INDEX", x.put(0, 1, 9, 0), -13);
        check.due("put: INDEX", x.put(0, 0, 9, 0), -12);
        check.due("copy: BAD, NULL", x.copy(3, 0, 4, 0, 0), -2);
        check.due("copy: NULL, INDEX", x.copy(0, -1, 3, 0, 0), -11);
        check.due("copy: STORE, INDEX", x.copy(0, -1, 1, 0, 0), -14);
        check.due("copy: INDEX", x.copy(0, -1, 0, 0, 0), -12);
        check.due("sheet: BAD, SIZE", x.sheet(0, 3, -1), -2);
        check.due("sheet: SIZE", x.sheet(0, 0, -1), -15);
        check.due("get: BAD, NULL", x.get(3, 3, 0), LEAST);
        check.due("count(8) of BAD", x.count(8), 5);
        check.due("get: NULL, CAST, INDEX", x.get(3, 0, 9), LEAST);
        check.due("count(8) of NULL", x.count(8), 1);
        check.due("get: CAST, INDEX", x.get(0, 1, 9), LEAST);
        check.due("count(8) of CAST", x.count(8), 3);
        check.due("clash: NULL", x.clash(3), -11);
        check.due("clash: NOT", x.clash(1), -3);
    }

    private void changeNothing() {
        check.edge("They change nothing (FINDINGS but count() 8).");
        same("type, no text", x -> x.type(2, 'a'), -2);
        same("type, no byte", x -> x.type(0, 256), -2);
        same("type, full", x -> x.type(0, 'a'), -4);
        same("wipe, no text", x -> x.wipe(2), -2);
        same("slip, no cell", x -> x.slip(24, 0, 0), -2);
        same("slip, no POINT", x -> x.slip(0, 6, 0), -2);
        same("slip, neither", x -> x.slip(0, 0, 2), -2);
        same("slip, full", x -> x.slip(0, 0, 0), -4);
        same("read, no SHEET", x -> x.read(4), -2);
        same("read, LOST", x -> x.read(3), -11);
        same("lose, LOST", x -> x.lose(3), -11);
        same("write, LOST", x -> x.write(3), -11);
    }

    private void changeNothingOfLetters() {
        check.edge("They change nothing");
        same("fault", x -> x.fault(2), -2);
        same("sign, no LETTER", x -> x.sign(10, 1), -2);
        same("sign, 0", x -> x.sign(0, 0), -2);
        same("sign, 64", x -> x.sign(0, 64), -2);
        same("set, what", x -> x.set(2, 0), -2);
        same("set, MISS 10", x -> x.set(0, 10), -2);
        same("set, EXTRA -1", x -> x.set(1, -1), -2);
        same("often, word", x -> x.often(8, 0), -2);
        same("often, v", x -> x.often(7, 100), -2);
        same("hand, hand", x -> x.hand(3, 0, 0), -2);
        same("hand, point", x -> x.hand(1, 6, 0), -2);
        same("hand, v", x -> x.hand(2, 5, 100), -2);
    }

    private void changeNothingOfQuestions() {
        check.edge("BAD -2 (a number not as told, no such thing)");
        same("cell", x -> x.cell(24), -2);
        same("letter", x -> x.letter(24), -2);
        same("wrong", x -> x.wrong(24), -2);
        same("mirrored", x -> x.mirrored(64), -2);
        same("both", x -> x.both(3), -2);
        same("fits, word", x -> x.fits(3, 0), -2);
        same("fits, from", x -> x.fits(0, -1), -2);
        same("meant, from", x -> x.meant(24, 0), -2);
        same("meant, what", x -> x.meant(0, 2), -2);
        same("within, from", x -> x.within(24, 0), -2);
        same("within, most", x -> x.within(0, 1000), -2);
        same("line", x -> x.line(2), -2);
        same("better", x -> x.better(10), -2);
        same("shorts, many", x -> x.shorts(9, 0), -2);
        same("shorts, what", x -> x.shorts(0, 3), -2);
        same("under, word", x -> x.under(3, 0), -2);
        same("under, from", x -> x.under(0, -1), -2);
        same("clash, no SHEET", x -> x.clash(4), -2);
        same("clash, LOST", x -> x.clash(3), -11);
        same("clash, no cell", x -> x.clash(1), -3);
        same("wear, n", x -> x.wear(100, -1), -2);
        same("wear, cell", x -> x.wear(0, 24), -2);
        same("count", x -> x.count(9), -2);
    }

    private void changeNothingOfSheets() {
        check.edge("they change nothing but count() 8");
        same("sheet, no SHEET", x -> x.sheet(4, 0, 1), -2);
        same("sheet, no FORM", x -> x.sheet(0, 3, 1), -2);
        same("sheet, above 48", x -> x.sheet(0, 0, 49), -2);
        same("sheet, below 0", x -> x.sheet(0, 0, -1), -15);
        same("lose, no SHEET", x -> x.lose(-1), -2);
        same("put, no SHEET", x -> x.put(4, 0, 0, 9), -2);
        same("put, no FORM", x -> x.put(0, 3, 0, 9), -2);
        same("put, LOST", x -> x.put(3, 0, 0, 9), -11);
        same("put, another FORM", x -> x.put(0, 1, 0, 9), -13);
        same("put, no item", x -> x.put(0, 0, 4, 9), -12);
        same("copy, no SHEET", x -> x.copy(0, 0, 4, 0, 1), -2);
        same("copy, LOST", x -> x.copy(0, 0, 3, 0, 1), -11);
        same("copy, unlike FORMS", x -> x.copy(0, 0, 1, 0, 1), -14);
        same("copy, not so many", x -> x.copy(0, 1, 0, 0, 4), -12);
        same("write, no SHEET", x -> x.write(4), -2);
    }

    private void changeNothingOfNew() {
        check.edge("NOT -3 (as told)");
        PrickedPages x = new PrickedPages();
        check.due("undo without SLIPS", x.undo(), -3);
        check.due("twice", x.undo(), -3);
        dueAlike("undo without SLIPS", x, new PrickedPages(), 0);
        check.due("a SLIP behind it", x.slip(0, 0, 0), 1);
        check.due("it is undone", x.undo(), 0);
    }

    /** A page and SLIPS that take no more, three WORDS, a LOST SHEET, and all numbers unlike those at first. */
    private static PrickedPages full() {
        PrickedPages x = Check.with("dfc.ab.ghij.bb.fa.edcabj", "df;c;ab");
        for (int k = 0; k < 12; k++) {
            x.slip(k * 5 % 24, k * 7 % 6, k % 2);
        }
        for (int letter = 0; letter < 10; letter++) {
            x.sign(letter, 3 + letter * 2);
        }
        for (int word = 0; word < 8; word++) {
            x.often(word, 3 + word);
        }
        for (int place = 0; place < 18; place++) {
            x.hand(place / 6, place % 6, 1 + place);
        }
        x.set(0, 3);
        x.set(1, 4);
        Check.row(x, 0, 0, 5, 6, 7, 8);
        Check.row(x, 1, 1, 63, 64);
        Check.row(x, 2, 2, 1, 2, 3);
        x.copy(0, 0, 1, 0, 0);
        return x;
    }

    private void same(String call, ToIntFunction<PrickedPages> refused, int due) {
        PrickedPages x = full();
        check.due(call, refused.applyAsInt(x), due);
        dueAlike(call, x, full(), due < -10 ? -10 - due : FIRST_FINDING);
    }

    private void dueAlike(String call, PrickedPages x, PrickedPages y, int finding) {
        check.due("count(8) behind " + call, x.count(8), finding);
        check.due("digest behind " + call, x.digest(), y.digest());
        for (int s = 0; s < 4; s++) {
            for (int i = 0; i < 5; i++) {
                check.due("SHEET " + s + " behind " + call, x.get(s, s % 3, i), y.get(s, s % 3, i));
            }
            check.due("size of SHEET " + s + " behind " + call, x.lose(s), y.lose(s));
        }
        for (int k = 0; k < 13; k++) {
            check.due("SLIPS behind " + call, x.undo(), y.undo());
        }
        for (int letter = 0; letter < 10; letter++) {
            check.due("SIGN " + letter + " behind " + call, x.sign(letter, 1), y.sign(letter, 1));
        }
        for (int word = 0; word < 8; word++) {
            check.due("OFTEN " + word + " behind " + call, x.often(word, 1), y.often(word, 1));
        }
        for (int place = 0; place < 18; place++) {
            int was = x.hand(place / 6, place % 6, 0);
            check.due("HAND " + place + " behind " + call, was, y.hand(place / 6, place % 6, 0));
        }
        for (int what = 0; what <= 1; what++) {
            check.due("COST " + what + " behind " + call, x.set(what, 0), y.set(what, 0));
            check.due("text " + what + " behind " + call, x.wipe(what), y.wipe(what));
        }
    }
}
