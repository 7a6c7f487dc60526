/** Promises 1 to 10: a new object, type, wipe, fault, sign, read, slip, undo, set, often. */
public final class LettersTest {
    private static final Check check = new Check("LettersTest");
    private static final int LEAST = Integer.MIN_VALUE, GREATEST = Integer.MAX_VALUE;

    public static void main(String[] args) {
        newObject();
        type();
        wipe();
        faultOfPage();
        faultOfWords();
        sign();
        read();
        slip();
        undo();
        set();
        often();
        check.end();
    }

    private static void newObject() {
        PrickedPages x = new PrickedPages();
        int[] counts = {0, 0, 0, 0, 0, 0, 25, 0, 0};
        for (int what = 0; what < counts.length; what++) {
            check.due("new: count(" + what + ")", x.count(what), counts[what]);
        }
        for (int s = 0; s < 4; s++) {
            check.due("new: lose(" + s + ")", x.lose(s), -11);
        }
        int[] signs = {1, 3, 9, 25, 17, 11, 27, 19, 10, 26};
        for (int letter = 0; letter < 10; letter++) {
            check.due("new: sign(" + letter + ", 63)", x.sign(letter, 63), signs[letter]);
        }
        for (int word = 0; word < 8; word++) {
            check.due("new: often(" + word + ", 0)", x.often(word, 0), 1);
        }
        for (int place = 0; place < 18; place++) {
            check.due("new: hand " + place, x.hand(place / 6, place % 6, 7), 0);
        }
        check.due("new: set(0, 5)", x.set(0, 5), 1);
        check.due("new: set(1, 5)", x.set(1, 5), 2);
        check.due("new: cell(0)", x.cell(0), -2);
    }

    private static void type() {
        PrickedPages x = new PrickedPages();
        check.due("type(0, 0)", x.type(0, 0), 1);
        check.due("type(0, 255)", x.type(0, 255), 2);
        check.due("type(1, 97)", x.type(1, 97), 1);
        check.due("type(0, -1)", x.type(0, -1), -2);
        check.due("type(0, 256)", x.type(0, 256), -2);
        check.due("type(-1, 97)", x.type(-1, 97), -2);
        check.due("type(2, 97)", x.type(2, 97), -2);
        check.due("type(least)", x.type(LEAST, LEAST), -2);
        check.due("type(greatest)", x.type(GREATEST, GREATEST), -2);
        for (int i = 3; i <= 24; i++) {
            check.due("type(0, 97)", x.type(0, 97), i);
        }
        check.due("type on a full page", x.type(0, 97), -4);
        check.due("BAD goes before FULL", x.type(0, 256), -2);
        for (int i = 2; i <= 60; i++) {
            check.due("type(1, 98)", x.type(1, 98), i);
        }
        check.due("type behind full words", x.type(1, 98), -4);
        check.due("bytes of the page", x.count(2), 24);
        check.due("bytes of words", x.count(3), 60);
    }

    private static void wipe() {
        PrickedPages x = Check.with("abk", "ab;a");
        x.slip(0, 0, 0);
        check.due("wipe(2)", x.wipe(2), -2);
        check.due("wipe(-1)", x.wipe(-1), -2);
        check.due("wipe a page with a fault", x.wipe(0), 3);
        check.due("wipe(0) again", x.wipe(0), 0);
        check.due("words stay", x.count(1), 2);
        check.due("slips stay", x.count(4), 1);
        x.type(0, 'b');
        check.due("the slip is there on the new page", x.cell(0), 2);
        check.due("wipe(1)", x.wipe(1), 4);
        check.due("no words", x.count(1), 0);
        check.due("the page stays", x.count(0), 1);
    }

    private static void faultOfPage() {
        check.due("an empty page", new PrickedPages().fault(0), -1);
        check.due("a well page", Check.with("abcdefghij....abcdefghij", "").fault(0), -1);
        check.due("k", Check.with("abk.k", "").fault(0), 2);
        check.due("A", Check.with("A", "").fault(0), 0);
        check.due("the byte before a", Check.with("a`", "").fault(0), 1);
        check.due("; on a page", Check.with("..;", "").fault(0), 2);
        check.due("fault(2)", new PrickedPages().fault(2), -2);
        check.due("fault(-1)", new PrickedPages().fault(-1), -2);
        PrickedPages x = Check.with("abk", "");
        check.due("CELLS with a fault", x.count(0), 0);
        check.due("a cell with a fault", x.cell(0), -2);
        check.due("bytes with a fault", x.count(2), 3);
        check.due("POINTS with a fault", x.count(5), 0);
    }

    private static void faultOfWords() {
        dueFault("", -1, 0);
        dueFault("a", -1, 1);
        dueFault("abcdef;jihgfe", -1, 2);
        dueFault("abcdefg", 6, 0);
        dueFault("a;abcdefghh", 8, 0);
        dueFault(";a", 0, 0);
        dueFault("a;", 2, 0);
        dueFault("a;;b", 2, 0);
        dueFault("a.b", 1, 0);
        dueFault("a;k", 2, 0);
        dueFault("a;b;c;d;e;f;g;h", -1, 8);
        dueFault("a;b;c;d;e;f;g;h;", 16, 0);
        dueFault("a;b;c;d;e;f;g;h;i;j", 16, 0);
        dueFault("aaaaaa;bbbbbb;cccccc;dddddd;eeeeee;ffffff;gggggg;hhhhhh", -1, 8);
        dueFault("aaaaaa;bbbbbb;cccccc;dddddd;eeeeee;ffffff;gggggg;hhhhhhh", 55, 0);
    }

    private static void dueFault(String words, int fault, int many) {
        PrickedPages x = Check.with("a", words);
        check.due("fault of words " + words, x.fault(1), fault);
        check.due("how many words " + words, x.count(1), many);
        check.due("bytes of words " + words, x.count(3), words.length());
        check.due("both() of words " + words, x.both(many), -2);
    }

    private static void sign() {
        PrickedPages x = Check.with("ab", "a");
        check.due("sign(0, 63)", x.sign(0, 63), 1);
        check.due("the cell goes with its sign", x.cell(0), 63);
        check.due("the word goes with its sign", x.fits(0, 0), 0);
        check.due("sign(0, 3)", x.sign(0, 3), 63);
        check.due("two may have the same", x.letter(1), 0);
        check.due("sign(9, 1)", x.sign(9, 1), 26);
        check.due("sign(0, 0)", x.sign(0, 0), -2);
        check.due("sign(0, 64)", x.sign(0, 64), -2);
        check.due("sign(10, 1)", x.sign(10, 1), -2);
        check.due("sign(-1, 1)", x.sign(-1, 1), -2);
        check.due("sign(least)", x.sign(LEAST, GREATEST), -2);
        check.due("nothing changed", x.sign(0, 3), 3);
    }

    private static void read() {
        PrickedPages x = Check.with("abc", "");
        check.due("read(4)", x.read(4), -2);
        check.due("read(-1)", x.read(-1), -2);
        check.due("BAD is no FINDING", x.count(8), 0);
        check.due("read a LOST sheet", x.read(0), -11);
        check.due("NULL", x.count(8), 1);
        Check.row(x, 0, 2, 5, 63, 64, 7);
        check.due("up to the first that is no sign", x.read(0), 2);
        check.due("cell(0)", x.cell(0), 5);
        check.due("cell(1)", x.cell(1), 63);
        check.due("cell(2) as it was", x.cell(2), 9);
        Check.row(x, 1, 0, 0, 1);
        check.due("the first is no sign", x.read(1), 0);
        Check.row(x, 1, 0, -1);
        check.due("a byte below 0 is no sign", x.read(1), 0);
        Check.row(x, 2, 1, 11, 12, 13, 14, 15, 16, 17, 18, 19, 20, 21, 22);
        check.due("ten at most", x.read(2), 10);
        check.due("the last letter", x.sign(9, 1), 20);
        x.sheet(3, 0, 0);
        check.due("a sheet without items", x.read(3), 0);
    }

    private static void slip() {
        PrickedPages x = Check.with("b.", "");
        check.due("slip(0, 0, 0)", x.slip(0, 0, 0), 1);
        check.due("skipped", x.cell(0), 2);
        check.due("slip(0, 5, 1)", x.slip(0, 5, 1), 2);
        check.due("raised", x.cell(0), 34);
        check.due("slip(0, 0, 1)", x.slip(0, 0, 1), 3);
        check.due("the latest holds", x.cell(0), 35);
        check.due("slip on a space", x.slip(1, 3, 1), 4);
        check.due("a space with a point", x.cell(1), 8);
        check.due("slip(23, 5, 0)", x.slip(23, 5, 0), 5);
        check.due("slip(24, 0, 0)", x.slip(24, 0, 0), -2);
        check.due("slip(-1, 0, 0)", x.slip(-1, 0, 0), -2);
        check.due("slip(0, 6, 0)", x.slip(0, 6, 0), -2);
        check.due("slip(0, -1, 0)", x.slip(0, -1, 0), -2);
        check.due("slip(0, 0, 2)", x.slip(0, 0, 2), -2);
        check.due("slip(0, 0, -1)", x.slip(0, 0, -1), -2);
        x.slip(2, 4, 1);
        x.type(0, 'a');
        check.due("a slip of a cell that comes later", x.cell(2), 17);
        for (int i = 7; i <= 12; i++) {
            check.due("slip(5, 5, 1)", x.slip(5, 5, 1), i);
        }
        check.due("a thirteenth", x.slip(5, 5, 1), -4);
        check.due("BAD goes before FULL", x.slip(24, 5, 1), -2);
    }

    private static void undo() {
        PrickedPages x = Check.with("b", "");
        check.due("nothing to undo", x.undo(), -3);
        x.slip(0, 0, 0);
        x.slip(0, 0, 1);
        check.due("undo the last", x.undo(), 1);
        check.due("the earlier holds again", x.cell(0), 2);
        check.due("undo the first", x.undo(), 0);
        check.due("as the sign has it", x.cell(0), 3);
        check.due("nothing left", x.undo(), -3);
    }

    private static void set() {
        PrickedPages x = Check.with("b", "a;d");
        check.due("MISS 1, EXTRA 2", x.fits(0, 0), 2);
        check.due("MISS 1 twice, EXTRA 2", x.fits(1, 0), 4);
        check.due("set(0, 9)", x.set(0, 9), 1);
        check.due("set(1, 0)", x.set(1, 0), 2);
        check.due("EXTRA 0", x.fits(0, 0), 0);
        check.due("MISS 9 twice", x.fits(1, 0), 18);
        check.due("set(0, 10)", x.set(0, 10), -2);
        check.due("set(1, -1)", x.set(1, -1), -2);
        check.due("set(2, 1)", x.set(2, 1), -2);
        check.due("set(-1, 1)", x.set(-1, 1), -2);
        check.due("MISS as it was", x.set(0, 0), 9);
        check.due("EXTRA as it was", x.set(1, 9), 0);
    }

    private static void often() {
        PrickedPages x = Check.with("", "abc");
        check.due("often(0, 99)", x.often(0, 99), 1);
        check.due("saved by it", x.shorts(1, 1), 198);
        check.due("often of a number without a word", x.often(7, 5), 1);
        check.due("often(7, 0)", x.often(7, 0), 5);
        check.due("often(8, 0)", x.often(8, 0), -2);
        check.due("often(-1, 0)", x.often(-1, 0), -2);
        check.due("often(0, 100)", x.often(0, 100), -2);
        check.due("often(0, -1)", x.often(0, -1), -2);
        check.due("as it was", x.often(0, 1), 99);
    }
}
