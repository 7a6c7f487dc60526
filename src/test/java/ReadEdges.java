/** Boundary cases of what is read and what was meant: the terms, and promises 11 to 20. */
final class ReadEdges {
    private static final int GREATEST = Check.GREATEST;
    private final Check check;

    ReadEdges(Check check) {
        this.check = check;
    }

    void all() {
        readAsLeast();
        readAsSpace();
        readAsNone();
        columns();
        mirroredTwice();
        judgedFirst();
        wrongSide();
        bothWithoutSlips();
        bothAsMany();
        bothLeast();
        costs();
        fitsIfSoMany();
        costOfPoints();
        meantLeast();
        meantLongest();
        meantLeastNumber();
        meantNone();
        withinTold();
        withinNumbers();
        lineOfSpaces();
        lineBetweenWords();
        lineLeast();
        lineFewest();
        cell();
        letter();
        judged();
        wrong();
        mirrored();
        both();
        fits();
        meant();
        within();
        line();
    }

    private void readAsLeast() {
        check.edge("A SIGN is READ as the least LETTER that has it");
        PrickedPages x = Check.with("cj", "");
        x.sign(9, 9);
        check.due("c and j have it: c", x.letter(0), 2);
        check.due("c and j have it: j", x.letter(1), 2);
        x.sign(0, 9);
        check.due("a has it, too", x.letter(1), 0);
        x.sign(0, 1);
        x.sign(2, 1);
        check.due("j alone", x.letter(1), 9);
        check.due("c has that of a", x.letter(0), 0);
    }

    private void readAsSpace() {
        check.edge("0 as a space (10)");
        PrickedPages x = Check.with(".a", "");
        check.due("a space", x.letter(0), 10);
        x.slip(1, 0, 0);
        check.due("a letter without POINTS", x.letter(1), 10);
        check.due("from the wrong side", x.wrong(0), 10);
        x.slip(0, 0, 1);
        check.due("a space with a POINT", x.letter(0), 0);
    }

    private void readAsNone() {
        check.edge("NONE: no LETTER has it");
        PrickedPages x = Check.with("a.", "");
        x.slip(0, 5, 1);
        check.due("33", x.letter(0), -1);
        x.slip(1, 1, 1);
        check.due("a space with a POINT that is no SIGN", x.letter(1), -1);
        x.sign(9, 33);
        check.due("j has it now", x.letter(0), 9);
        x.sign(9, 34);
        check.due("none has it again", x.letter(0), -1);
    }

    private void columns() {
        check.edge("bits 0 to 2 are one column from above, 3 to 5 the other one");
        PrickedPages x = new PrickedPages();
        for (int point = 0; point < 6; point++) {
            check.due("POINT " + point + " mirrored", x.mirrored(1 << point), 1 << (point + 3) % 6);
        }
        check.due("one column", x.mirrored(7), 56);
        check.due("the other one", x.mirrored(56), 7);
    }

    private void mirroredTwice() {
        check.edge("MIRRORED: both columns of a cell in each other's place.");
        PrickedPages x = new PrickedPages();
        check.due("no POINTS", x.mirrored(0), 0);
        check.due("all POINTS", x.mirrored(63), 63);
        check.due("both columns alike", x.mirrored(27), 27);
        check.due("both columns unlike", x.mirrored(0b110001), 0b001110);
        for (int v = 0; v <= 63; v++) {
            check.due("twice mirrored " + v, x.mirrored(x.mirrored(v)), v);
        }
    }

    private void judgedFirst() {
        check.edge("JUDGED: the first cell that is READ as NONE; NONE.");
        PrickedPages x = Check.with("aaaaaaaaaaaaaaaaaaaaaaaa", "");
        check.due("all are READ", x.judged(), -1);
        x.slip(23, 5, 1);
        check.due("the last cell", x.judged(), 23);
        x.slip(22, 5, 1);
        check.due("the first of two", x.judged(), 22);
        x.slip(0, 5, 1);
        check.due("the first cell", x.judged(), 0);
        check.due("a page of spaces", Check.with("..", "").judged(), -1);
    }

    private void wrongSide() {
        check.edge("WRONG SIDE: CELLS from the last one on, each MIRRORED.");
        PrickedPages x = Check.with("dc.", "");
        check.due("the last cell comes first", x.wrong(0), 10);
        check.due("c is its own mirror", x.wrong(1), 2);
        check.due("the first cell comes last, d as f", x.wrong(2), 5);
        PrickedPages one = Check.with("e", "");
        check.due("e as i", one.wrong(0), 8);
        PrickedPages full = Check.with("haaaaaaaaaaaaaaaaaaaaaai", "");
        check.due("of 24 the last", full.wrong(0), 4);
        check.due("a mirrored is none", full.wrong(1), -1);
        check.due("of 24 the first", full.wrong(23), 9);
    }

    private void bothWithoutSlips() {
        check.edge("WORDS (without SLIPS) that from the wrong side are READ as a WORD of the list");
        PrickedPages x = Check.with("df", "df");
        check.due("df both ways", x.both(0), 0);
        x.slip(0, 0, 0);
        x.slip(1, 0, 0);
        check.due("with SLIPS on the page", x.both(0), 0);
        check.due("as bits", x.both(-1), 1);
        PrickedPages g = Check.with("", "g");
        check.due("g both ways", g.both(0), 0);
        g.sign(6, 9);
        check.due("its SIGN is READ as c", g.both(0), -1);
        check.due("as bits", g.both(-1), 0);
    }

    private void bothAsMany() {
        check.edge("(letter by letter, as many)");
        dueBoth("cc;c;ccc", 0, 1, 2);
        dueBoth("d;fc", -1, -1);
        dueBoth("cd;f", -1, -1);
        dueBoth("dc;cf", 1, 0);
        dueBoth("dc;fc", -1, -1);
        dueBoth("dddddd;ffffff;fffff", 1, 0, -1);
        dueBoth("cccccd;cccccf;fccccc", 2, -1, 0);
    }

    private void bothLeast() {
        check.edge("whose each is: the least such WORD; NONE.");
        dueBoth("f;d;f;d", 1, 0, 1, 0);
        dueBoth("c;c;c", 0, 0, 0);
        dueBoth("a;b", -1, -1);
        dueBoth("a;c;c;c;c;c;d;f", -1, 1, 1, 1, 1, 1, 7, 6);
    }

    private void dueBoth(String words, int... due) {
        PrickedPages x = Check.with("", words);
        int bits = 0;
        for (int w = 0; w < due.length; w++) {
            check.due("both(" + w + ") of " + words, x.both(w), due[w]);
            bits |= due[w] == -1 ? 0 : 1 << w;
        }
        check.due("both(NONE) of " + words, x.both(-1), bits);
    }

    private void costs() {
        check.edge("COSTS: MISS, EXTRA (0 to 9 each; 1, 2 at first).");
        PrickedPages x = Check.with("b", "a;f");
        check.due("one POINT there that is not in the SIGN", x.fits(0, 0), 2);
        check.due("one POINT of the SIGN that is not there", x.fits(1, 0), 1);
        check.due("the least MISS", x.set(0, 0), 1);
        check.due("the least EXTRA", x.set(1, 0), 2);
        check.due("EXTRA 0", x.fits(0, 0), 0);
        check.due("MISS 0", x.fits(1, 0), 0);
        check.due("the greatest MISS", x.set(0, 9), 0);
        check.due("the greatest EXTRA", x.set(1, 9), 0);
        check.due("EXTRA 9", x.fits(0, 0), 9);
        check.due("MISS 9", x.fits(1, 0), 9);
        check.bad("set(0, v)", v -> x.set(0, v), -1, 10);
        check.bad("set(1, v)", v -> x.set(1, v), -1, 10);
    }

    private void fitsIfSoMany() {
        check.edge("A WORD FITS CELLS from a place on, as many as it has letters, if there are so many");
        PrickedPages x = Check.with("abc", "ab;abc;abcd");
        check.due("two letters at the last place for them", x.fits(0, 1), 5);
        check.due("one cell too few", x.fits(0, 2), -1);
        check.due("as many cells as letters", x.fits(1, 0), 0);
        check.due("one cell too few for three", x.fits(1, 1), -1);
        check.due("one letter too many", x.fits(2, 0), -1);
        PrickedPages full = Check.with("aaaaaaaaaaaaaaaaaaaaaaaa", "aaaaaa");
        check.due("at the end of a full page", full.fits(0, 18), 0);
        check.due("behind it", full.fits(0, 19), -1);
    }

    private void costOfPoints() {
        check.edge("it costs MISS for each POINT of its SIGNS that is not there, "
            + "EXTRA for each that is there and not in its SIGNS");
        PrickedPages x = Check.with(".g", "g;a;gg");
        check.due("four POINTS miss", x.fits(0, 0), 4);
        check.due("none misses", x.fits(0, 1), 0);
        check.due("three are too many", x.fits(1, 1), 6);
        check.due("two letters", x.fits(2, 0), 4);
        x.set(0, 9);
        x.set(1, 9);
        check.due("MISS 9", x.fits(0, 0), 36);
        check.due("EXTRA 9", x.fits(1, 1), 27);
        PrickedPages most = Check.with("......", "aaaaaa");
        most.sign(0, 63);
        most.set(0, 9);
        check.due("the greatest cost", most.fits(0, 0), 324);
    }

    private void meantLeast() {
        check.edge("MEANT at a place: the WORD that costs least");
        dueMeant("b", "a;b;c", 0, 1, 0);
        dueMeant("ab", "aa;b;a", 0, 2, 0);
        dueMeant("b", "a;f;c", 0, 1, 1);
        dueMeant("aaaaaa", "aaaaab;aaaaac;a", 0, 2, 0);
    }

    private void meantLongest() {
        check.edge("of like ones the longest, of like ones the least: the WORD");
        dueMeant("abc", "a;ab;abc", 0, 2, 0);
        dueMeant("abc", "abc;ab;a", 0, 0, 0);
        dueMeant("abc", "ab;abc;a", 0, 1, 0);
        dueMeant("ab", "a;ab;abc", 0, 1, 0);
        dueMeant("abcdef", "a;ab;abc;abcd;abcde;abcdef", 0, 5, 0);
    }

    private void meantLeastNumber() {
        check.edge("of like ones the least: the WORD; its cost");
        dueMeant("ab", "b;ab;ab;a", 0, 1, 0);
        dueMeant(".", "d;d;d", 0, 0, 3);
        dueMeant(".", "b;a;a;a", 0, 1, 1);
        dueMeant("a", "aa;b;c;c", 0, 1, 1);
        dueMeant("a.", "b;b", 1, 0, 2);
    }

    private void meantNone() {
        check.edge("NONE: none FITS");
        dueMeant("a", "ab;abc", 0, -1, -1);
        dueMeant("ab", "ab", 1, -1, -1);
        dueMeant("ab", "", 0, -1, -1);
    }

    private void dueMeant(String page, String words, int from, int word, int cost) {
        PrickedPages x = Check.with(page, words);
        check.due("meant(" + from + ", 0) of " + words + " on " + page, x.meant(from, 0), word);
        check.due("meant(" + from + ", 1) of " + words + " on " + page, x.meant(from, 1), cost);
    }

    private void withinTold() {
        check.edge("WITHIN: WORDS that cost no more than told");
        PrickedPages x = Check.with("b", "a;b;c;bb");
        check.due("no cost told", x.within(0, 0), 0b0010);
        check.due("one less than a costs", x.within(0, 1), 0b0010);
        check.due("as much as a costs", x.within(0, 2), 0b0011);
        check.due("as much as c costs", x.within(0, 3), 0b0111);
        check.due("more", x.within(0, 4), 0b0111);
        check.due("no WORDS", Check.with("b", "").within(0, 999), 0);
        check.due("eight", Check.with("a", "a;a;a;a;a;a;a;a").within(0, 0), 255);
    }

    private void withinNumbers() {
        check.edge("than told (0 to 999) there, as bits");
        PrickedPages x = Check.with("......", "aaaaaa");
        x.sign(0, 63);
        x.set(0, 9);
        check.due("one less than the greatest cost", x.within(0, 323), 0);
        check.due("the greatest cost", x.within(0, 324), 1);
        check.due("999", x.within(0, 999), 1);
        check.due("0", x.within(0, 0), 0);
        check.bad("within(0, most)", most -> x.within(0, most), -1, 1000);
    }

    private void lineOfSpaces() {
        check.edge("THE PAGE is parted into spaces (cells taken as spaces cost EXTRA for each POINT there)");
        dueLine("", "", 0, 0);
        dueLine("", "a", 0, 0);
        dueLine("...", "", 0, 0);
        dueLine("g", "", 8, 0);
        dueLine("g.a", "", 10, 0);
        PrickedPages x = Check.with("aaaaaaaaaaaaaaaaaaaaaaaa", "");
        x.sign(0, 63);
        x.set(1, 9);
        check.due("the greatest cost of a page", x.line(0), 1296);
        check.due("without WORDS", x.line(1), 0);
        x.set(1, 0);
        check.due("EXTRA 0", x.line(0), 0);
    }

    private void lineBetweenWords() {
        check.edge("with one space at least between two WORDS");
        dueLine("a", "a", 0, 1);
        dueLine("aa", "a", 2, 1);
        dueLine("a.a", "a", 0, 2);
        dueLine("a..a", "a", 0, 2);
        dueLine(".a.a.", "a", 0, 2);
        dueLine("aaa", "a", 2, 2);
        dueLine("abab", "ab", 6, 1);
        dueLine("ab.ab", "ab;a;b", 0, 2);
        dueLine("aaaaaaaaaaaaaaaaaaaaaaaa", "a", 24, 12);
        dueLine("a.a.a.a.a.a.a.a.a.a.a.a.", "a", 0, 12);
    }

    private void lineLeast() {
        check.edge("the least that all costs");
        dueLine("ab", "a;ab", 0, 1);
        dueLine("abab", "aba;ab;b", 2, 2);
        dueLine("ab.ab", "ab", 0, 2);
        dueLine("b", "a;f;c", 1, 1);
        dueLine("ab", "abc", 6, 0);
        dueLine("abcdef.ghijab", "abcdef;ghijab", 0, 2);
    }

    private void lineFewest() {
        check.edge("of like ones with the fewest WORDS: the cost; how many WORDS.");
        // f lacks two POINTS on a, as a space a costs EXTRA once: 2 each.
        dueLine("a", "f", 2, 0);
        dueLine("a.a", "f", 4, 0);
        PrickedPages x = Check.with("a.a", "a;aaa");
        check.due("one WORD costs more", x.line(1), 2);
        x.set(0, 0);
        check.due("one WORD costs as much", x.line(1), 1);
        x.set(1, 0);
        check.due("no WORD costs as much", x.line(1), 0);
        check.due("nothing", x.line(0), 0);
    }

    private void dueLine(String page, String words, int cost, int many) {
        PrickedPages x = Check.with(page, words);
        check.due("line(0) of " + page + " with " + words, x.line(0), cost);
        check.due("line(1) of " + page + " with " + words, x.line(1), many);
    }

    private void cell() {
        check.edge("A cell, as bits. BAD.");
        PrickedPages x = Check.with("aj", "");
        check.due("the first", x.cell(0), 1);
        check.due("the last", x.cell(1), 26);
        check.bad("cell(cell)", x::cell, -1, 2, 23, 24);
        check.bad("cell(cell) of an empty page", new PrickedPages()::cell, -1, 0);
        PrickedPages full = Check.with("aaaaaaaaaaaaaaaaaaaaaaab", "");
        check.due("the last of a full page", full.cell(23), 3);
        check.bad("cell(cell) of a full page", full::cell, -1, 24);
    }

    private void letter() {
        check.edge("What a cell is READ as (10 a space; NONE). BAD.");
        PrickedPages x = Check.with("aj.b", "");
        x.slip(3, 2, 1);
        int[] due = {0, 9, 10, -1};
        for (int i = 0; i < due.length; i++) {
            check.due("letter(" + i + ")", x.letter(i), due[i]);
        }
        check.bad("letter(cell)", x::letter, -1, 4, 24);
        check.bad("letter(cell) of an empty page", new PrickedPages()::letter, 0);
    }

    private void judged() {
        check.edge("`int judged()`: JUDGED; NONE.");
        check.due("an empty page", new PrickedPages().judged(), -1);
        PrickedPages x = Check.with("a", "");
        check.due("a cell that is READ", x.judged(), -1);
        x.sign(0, 63);
        check.due("a cell that is READ by its new SIGN", x.judged(), -1);
        x.slip(0, 5, 0);
        check.due("a cell that is not READ", x.judged(), 0);
        x.type(0, 'k');
        check.due("a page with a FAULT", x.judged(), -1);
    }

    private void wrong() {
        check.edge("What the i-th cell is READ as from the WRONG SIDE. BAD.");
        PrickedPages x = Check.with("g.", "");
        check.due("the first", x.wrong(0), 10);
        check.due("the last", x.wrong(1), 6);
        check.bad("wrong(i)", x::wrong, -1, 2, 24);
        check.bad("wrong(i) of an empty page", new PrickedPages()::wrong, 0);
    }

    private void mirrored() {
        check.edge("A cell (0 to 63) MIRRORED. BAD.");
        PrickedPages x = new PrickedPages();
        check.due("the least", x.mirrored(0), 0);
        check.due("the greatest", x.mirrored(63), 63);
        check.due("one less", x.mirrored(62), 55);
        check.bad("mirrored(v)", x::mirrored, -1, 64);
    }

    private void both() {
        check.edge("BOTH WAYS, as bits (word = NONE); which WORD a WORD is from the wrong side; NONE. BAD.");
        PrickedPages x = Check.with("c", "c;a;a;a;a;a;a;c");
        check.due("as bits", x.both(-1), 129);
        check.due("the first", x.both(0), 0);
        check.due("the last", x.both(7), 0);
        check.due("NONE", x.both(1), -1);
        check.bad("both(word)", x::both, -2, 8);
        PrickedPages none = new PrickedPages();
        check.due("as bits without WORDS", none.both(-1), 0);
        check.bad("both(word) without WORDS", none::both, -2, 0);
    }

    private void fits() {
        check.edge("What a WORD costs from a place on (0 on); NONE: it does not FIT "
            + "(nor from a place behind the CELLS). BAD.");
        PrickedPages x = Check.with("ab", "a;abc");
        check.due("place 0", x.fits(0, 0), 0);
        check.due("the last place", x.fits(0, 1), 2);
        check.due("behind the CELLS", x.fits(0, 2), -1);
        check.due("behind all that a page holds", x.fits(0, 24), -1);
        check.due("far behind", x.fits(0, GREATEST), -1);
        check.due("far behind with three letters", x.fits(1, GREATEST), -1);
        check.due("one less than that", x.fits(1, GREATEST - 2), -1);
        check.due("an empty page", Check.with("", "a").fits(0, 0), -1);
        PrickedPages shorter = Check.with("aaa", "a;aa");
        shorter.wipe(0);
        shorter.type(0, 'a');
        check.due("behind a page that was longer", shorter.fits(0, 1), -1);
        check.due("too few CELLS on a page that was longer", shorter.fits(1, 0), -1);
        check.bad("fits(word, 0)", word -> x.fits(word, 0), -1, 2, 7, 8);
        check.due("fits(0, -1)", x.fits(0, -1), -2);
        check.due("fits(0, the least int)", x.fits(0, Check.LEAST), -2);
        check.due("a WORD that does not FIT, at -1", x.fits(1, -1), -2);
    }

    private void meant() {
        check.edge("MEANT: the WORD (what = 0), its cost (1); NONE. BAD: also a place that is no cell.");
        PrickedPages x = Check.with("ab", "b;a");
        check.due("the WORD", x.meant(0, 0), 1);
        check.due("its cost", x.meant(0, 1), 0);
        check.due("at the last cell", x.meant(1, 0), 0);
        check.bad("meant(from, 0)", from -> x.meant(from, 0), -1, 2, 24);
        check.bad("meant(from, 1)", from -> x.meant(from, 1), -1, 2, 24);
        check.bad("meant(0, what)", what -> x.meant(0, what), -1, 2);
        PrickedPages tight = Check.with("a", "ab");
        check.bad("BAD where none FITS, too", what -> tight.meant(0, what), -1, 2);
        check.bad("meant(from, 0) of an empty page", from -> Check.with("", "a").meant(from, 0), 0);
    }

    private void within() {
        check.edge("WITHIN, as bits. BAD: also a place that is no cell.");
        PrickedPages x = Check.with("ab", "a;b;ab");
        check.due("at the first cell", x.within(0, 1), 0b111);
        check.due("at the last cell", x.within(1, 1), 0b010);
        check.bad("within(from, 0)", from -> x.within(from, 0), -1, 2, 24);
        check.bad("within(0, most)", most -> x.within(0, most), -1, 1000);
        check.bad("within(from, 0) of an empty page", from -> Check.with("", "a").within(from, 0), 0);
    }

    private void line() {
        check.edge("LINE: the cost (what = 0), how many WORDS (1). BAD.");
        PrickedPages x = Check.with("ab", "a");
        check.due("the cost", x.line(0), 4);
        check.due("how many WORDS", x.line(1), 1);
        check.bad("line(what)", x::line, -1, 2);
        check.bad("line(what) of an empty page", new PrickedPages()::line, -1, 2);
    }
}
