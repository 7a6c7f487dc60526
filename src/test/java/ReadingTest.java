/** Promises 11 to 20: cell, letter, judged, wrong, mirrored, both, fits, meant, within, line. */
public final class ReadingTest {
    private static final Check check = new Check("ReadingTest");
    private static final int GREATEST = Integer.MAX_VALUE, LEAST = Integer.MIN_VALUE;

    public static void main(String[] args) {
        cell();
        letter();
        judged();
        wrong();
        mirrored();
        both();
        fits();
        meant();
        within();
        line();
        check.end();
    }

    private static void cell() {
        PrickedPages x = Check.with("aj.", "");
        check.due("cell(0)", x.cell(0), 1);
        check.due("cell(1)", x.cell(1), 26);
        check.due("cell(2)", x.cell(2), 0);
        check.due("cell(3)", x.cell(3), -2);
        check.due("cell(-1)", x.cell(-1), -2);
        check.due("cell(greatest)", x.cell(GREATEST), -2);
        check.due("cell(least)", x.cell(LEAST), -2);
        x.wipe(0);
        check.due("a cell that was", x.cell(0), -2);
    }

    private static void letter() {
        PrickedPages x = Check.with("ba.c", "");
        check.due("letter(0)", x.letter(0), 1);
        check.due("a space", x.letter(2), 10);
        x.slip(0, 1, 0);
        check.due("a skipped point", x.letter(0), 0);
        x.slip(1, 0, 0);
        check.due("a letter read as a space", x.letter(1), 10);
        x.slip(2, 0, 1);
        check.due("a space read as a letter", x.letter(2), 0);
        x.slip(3, 5, 1);
        check.due("no letter", x.letter(3), -1);
        x.sign(9, 41);
        check.due("the letter that has it", x.letter(3), 9);
        x.sign(4, 41);
        check.due("the least that has it", x.letter(3), 4);
        check.due("letter(4)", x.letter(4), -2);
        check.due("letter(-1)", x.letter(-1), -2);
    }

    private static void judged() {
        PrickedPages x = Check.with("a.bc", "");
        check.due("all is read", x.judged(), -1);
        x.slip(3, 5, 1);
        check.due("the last", x.judged(), 3);
        x.slip(1, 5, 1);
        check.due("a space that frost raised", x.judged(), 1);
        x.undo();
        x.undo();
        x.slip(0, 0, 0);
        check.due("a letter read as a space is read", x.judged(), -1);
        check.due("no cells", new PrickedPages().judged(), -1);
    }

    private static void wrong() {
        PrickedPages x = Check.with("ad.e", "");
        check.due("e from behind is i", x.wrong(0), 8);
        check.due("a space", x.wrong(1), 10);
        check.due("d from behind is f", x.wrong(2), 5);
        check.due("a from behind is none", x.wrong(3), -1);
        check.due("wrong(4)", x.wrong(4), -2);
        check.due("wrong(-1)", x.wrong(-1), -2);
        check.due("wrong(least)", x.wrong(LEAST), -2);
        x.slip(0, 3, 1);
        check.due("with slips", x.wrong(3), 2);
    }

    private static void mirrored() {
        PrickedPages x = new PrickedPages();
        int[] cells = {0, 1, 2, 4, 8, 16, 32, 11, 25, 63, 7, 21};
        int[] due = {0, 8, 16, 32, 1, 2, 4, 25, 11, 63, 56, 42};
        for (int i = 0; i < cells.length; i++) {
            check.due("mirrored(" + cells[i] + ")", x.mirrored(cells[i]), due[i]);
        }
        check.due("mirrored(64)", x.mirrored(64), -2);
        check.due("mirrored(-1)", x.mirrored(-1), -2);
        check.due("mirrored(greatest)", x.mirrored(GREATEST), -2);
    }

    private static void both() {
        // c and g are their own mirror; d and f, e and i, h and j are each other's.
        PrickedPages x = Check.with("", "de;if;c;cg;gc;d;a;if");
        check.due("both(NONE)", x.both(-1), 0b10011111);
        int[] due = {1, 0, 2, 4, 3, -1, -1, 0};
        for (int w = 0; w < due.length; w++) {
            check.due("both(" + w + ")", x.both(w), due[w]);
        }
        check.due("both(8)", x.both(8), -2);
        check.due("both(-2)", x.both(-2), -2);
        x.type(0, 'd');
        x.slip(0, 0, 0);
        check.due("without slips", x.both(0), 1);
        PrickedPages same = Check.with("", "g;c");
        same.sign(6, 9);
        check.due("read as the least letter, c", same.both(0), 1);
        check.due("c is read as c", same.both(1), 1);
        check.due("no words", new PrickedPages().both(-1), 0);
        check.due("no word 0", new PrickedPages().both(0), -2);
        check.due("other lengths", Check.with("", "cc;c;ccc").both(-1), 7);
        check.due("other lengths, word 1", Check.with("", "cc;c;ccc").both(1), 1);
    }

    private static void fits() {
        PrickedPages x = Check.with("ab", "a;ab;ba;abc");
        check.due("no cost", x.fits(0, 0), 0);
        check.due("EXTRA", x.fits(0, 1), 2);
        check.due("the whole page", x.fits(1, 0), 0);
        check.due("MISS and EXTRA", x.fits(2, 0), 3);
        check.due("one cell too few", x.fits(1, 1), -1);
        check.due("longer than the page", x.fits(3, 0), -1);
        check.due("behind the cells", x.fits(0, 2), -1);
        check.due("far behind the cells", x.fits(1, GREATEST), -1);
        check.due("fits(0, -1)", x.fits(0, -1), -2);
        check.due("fits(0, least)", x.fits(0, LEAST), -2);
        check.due("fits(4, 0)", x.fits(4, 0), -2);
        check.due("fits(-1, 0)", x.fits(-1, 0), -2);
        x.slip(0, 0, 0);
        x.slip(0, 5, 1);
        check.due("with slips", x.fits(0, 0), 3);
        check.due("an empty page", Check.with("", "a").fits(0, 0), -1);
    }

    private static void meant() {
        PrickedPages x = Check.with("ab.", "b;a;ab;ab;abc");
        check.due("the longest of like ones, of them the least", x.meant(0, 0), 2);
        check.due("its cost", x.meant(0, 1), 0);
        check.due("the cheapest", x.meant(1, 0), 0);
        x.set(0, 0);
        check.due("cost 0 of all four, the longest", x.meant(2, 0), 0);
        x.set(0, 1);
        check.due("a costs least on a space", x.meant(2, 0), 1);
        check.due("its cost on a space", x.meant(2, 1), 1);
        check.due("meant(3, 0)", x.meant(3, 0), -2);
        check.due("meant(-1, 0)", x.meant(-1, 0), -2);
        check.due("meant(0, 2)", x.meant(0, 2), -2);
        check.due("meant(0, -1)", x.meant(0, -1), -2);
        PrickedPages tight = Check.with("a", "ab");
        check.due("none fits", tight.meant(0, 0), -1);
        check.due("none fits, its cost", tight.meant(0, 1), -1);
        PrickedPages dear = Check.with("ab", "aa;b;a");
        check.due("cheaper goes before longer", dear.meant(0, 0), 2);
        dear.set(1, 0);
        check.due("longer goes before less", dear.meant(0, 0), 0);
    }

    private static void within() {
        PrickedPages x = Check.with("ab", "a;ab;ba;abc;b");
        check.due("within(0, 0)", x.within(0, 0), 0b00011);
        check.due("within(0, 1)", x.within(0, 1), 0b10011);
        check.due("within(0, 3)", x.within(0, 3), 0b10111);
        check.due("within(0, 999)", x.within(0, 999), 0b10111);
        check.due("within(1, 999)", x.within(1, 999), 0b10001);
        check.due("within(0, 1000)", x.within(0, 1000), -2);
        check.due("within(0, -1)", x.within(0, -1), -2);
        check.due("within(2, 0)", x.within(2, 0), -2);
        check.due("within(-1, 0)", x.within(-1, 0), -2);
    }

    private static void line() {
        dueLine("", "a", 0, 0);
        dueLine("ab.ba", "ab;ba", 0, 2);
        dueLine("...", "a", 0, 0);
        dueLine("a", "", 2, 0);
        // Between two words stands one space at least: the b costs twice EXTRA.
        dueLine("aba", "a", 4, 2);
        dueLine("aa", "a", 2, 1);
        dueLine("aa", "a;aa", 0, 1);
        dueLine("a.a", "a;aaa", 0, 2);
        dueLine("ab", "abc", 6, 0);
        dueLine("aaaaaaaaaaaaaaaaaaaaaaaa", "a", 24, 12);
        PrickedPages x = Check.with("a.a", "a;aaa");
        x.set(0, 0);
        check.due("as cheap with fewer words: cost", x.line(0), 0);
        check.due("as cheap with fewer words", x.line(1), 1);
        x.set(1, 0);
        check.due("all for nothing: cost", x.line(0), 0);
        check.due("all for nothing, so no words", x.line(1), 0);
        PrickedPages slipped = Check.with("a.", "a");
        slipped.slip(1, 0, 1);
        check.due("a raised space costs", slipped.line(0), 2);
        check.due("one word of it", slipped.line(1), 1);
        check.due("line(2)", x.line(2), -2);
        check.due("line(-1)", x.line(-1), -2);
    }

    private static void dueLine(String page, String words, int cost, int many) {
        PrickedPages x = Check.with(page, words);
        check.due("line(0) of " + page + " with " + words, x.line(0), cost);
        check.due("line(1) of " + page + " with " + words, x.line(1), many);
    }
}
