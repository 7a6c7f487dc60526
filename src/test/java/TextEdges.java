/** Boundary cases of letters, texts and slips: the terms, and promises 1 to 10. */
final class TextEdges {
    private static final String EIGHT = "a;b;c;d;e;f;g;h";
    private final Check check;

    TextEdges(Check check) {
        this.check = check;
    }

    void all() {
        face();
        letters();
        signs();
        firstSigns();
        sameSigns();
        calls();
        pageBytes();
        pageLetters();
        wordBytes();
        eightWords();
        betweenWords();
        wordLetters();
        firstFault();
        emptyText();
        notEnded();
        seventhLetter();
        ninthWord();
        pageWithFault();
        wordsWithFault();
        bytesTold();
        twelveSlips();
        slipCells();
        slipPoints();
        slipIs();
        latestSlip();
        asTheSign();
        slipsOfCells();
        newObject();
        type();
        wipe();
        fault();
        sign();
        read();
        slip();
        undo();
        set();
        often();
    }

    private void face() {
        check.edge("public static final int NONE = -1, BAD = -2, NOT = -3, FULL = -4;");
        check.due("NONE", PrickedPages.NONE, -1);
        check.due("BAD", PrickedPages.BAD, -2);
        check.due("NOT", PrickedPages.NOT, -3);
        check.due("FULL", PrickedPages.FULL, -4);
    }

    private void letters() {
        check.edge("LETTERS are 0 to 9 (a to j)");
        PrickedPages x = Check.with("aj", "");
        check.due("sign(0, 2)", x.sign(0, 2), 1);
        check.due("sign(9, 4)", x.sign(9, 4), 26);
        check.due("a", x.cell(0), 2);
        check.due("j", x.cell(1), 4);
        check.bad("sign(letter, 1)", letter -> x.sign(letter, 1), -1, 10);
        check.bad("better(letter)", x::better, -1, 10);
    }

    private void signs() {
        check.edge("with a SIGN (1 to 63:");
        PrickedPages x = Check.with("d", "");
        check.due("sign(3, 1)", x.sign(3, 1), 25);
        check.due("cell of the least SIGN", x.cell(0), 1);
        check.due("sign(3, 63)", x.sign(3, 63), 1);
        check.due("cell of the greatest SIGN", x.cell(0), 63);
        check.bad("sign(3, v)", v -> x.sign(3, v), 0, 64, -1);
        check.due("as it was", x.sign(3, 5), 63);
    }

    private void firstSigns() {
        check.edge("at first 1, 3, 9, 25, 17, 11, 27, 19, 10, 26");
        int[] due = {1, 3, 9, 25, 17, 11, 27, 19, 10, 26};
        PrickedPages x = Check.with("abcdefghij", "");
        for (int letter = 0; letter < due.length; letter++) {
            check.due("cell of letter " + letter, x.cell(letter), due[letter]);
            check.due("sign(" + letter + ", 1)", x.sign(letter, 1), due[letter]);
        }
    }

    private void sameSigns() {
        check.edge("two may have the same");
        PrickedPages x = Check.with("ab", "");
        check.due("b gets the SIGN of a", x.sign(1, 1), 3);
        check.due("cell of b", x.cell(1), 1);
        check.due("a gets its own once more", x.sign(0, 1), 1);
        for (int letter = 2; letter < 10; letter++) {
            x.sign(letter, 1);
        }
        check.due("all ten have it", x.count(6), 10);
    }

    private void calls() {
        check.edge("An object is used for at most 512 calls after it has been made");
        PrickedPages x = new PrickedPages();
        x.type(0, 'a');
        for (int call = 2; call < 511; call += 2) {
            check.due("call " + call, x.slip(0, 5, 1), 1);
            check.due("call " + (call + 1), x.undo(), 0);
        }
        check.due("call 512", x.cell(0), 1);
        PrickedPages y = new PrickedPages();
        for (int call = 1; call <= 511; call++) {
            check.due("call " + call, y.sheet(call % 4, call % 3, call % 49), call % 49);
        }
        check.due("call 512", y.lose(511 % 4), 511 % 49);
    }

    private void pageBytes() {
        check.edge("THE PAGE (text 0) is a text of up to 24 bytes");
        dueFullAt(0, 24, 'j');
        dueFullAt(0, 24, 255);
        PrickedPages x = Check.with("..............................", "");
        check.due("CELLS", x.count(0), 24);
        check.due("the last cell", x.letter(23), 10);
        check.due("no cell behind it", x.letter(24), -2);
        check.due("no fault", x.fault(0), -1);
    }

    private void wordBytes() {
        check.edge("WORDS (text 1) are a text of up to 60 bytes");
        dueFullAt(1, 60, 'a');
        dueFullAt(1, 60, 0);
    }

    private void dueFullAt(int text, int room, int b) {
        PrickedPages x = new PrickedPages();
        for (int i = 1; i <= room; i++) {
            check.due("byte " + i + " of text " + text, x.type(text, b), i);
        }
        check.due("one more", x.type(text, b), -4);
        check.due("bytes told", x.count(2 + text), room);
        check.due("the other text has room", x.type(1 - text, b), 1);
        check.due("wiped", x.wipe(text), room);
        check.due("room again", x.type(text, b), 1);
    }

    private void pageLetters() {
        check.edge("letters a to j, . for a space");
        for (int b = 0; b <= 255; b++) {
            PrickedPages x = new PrickedPages();
            x.type(0, b);
            boolean well = b == '.' || b >= 'a' && b <= 'j';
            check.due("fault of byte " + b, x.fault(0), well ? -1 : 0);
            check.due("CELLS of byte " + b, x.count(0), well ? 1 : 0);
            check.due("letter of byte " + b, x.letter(0), well ? b == '.' ? 10 : b - 'a' : -2);
        }
    }

    private void eightWords() {
        check.edge("for each, 8 at most (0 on)");
        PrickedPages x = Check.with("h", EIGHT);
        check.due("WORDS", x.count(1), 8);
        check.due("the first is 0", x.fits(0, 0), 4);
        check.due("the last is 7", x.fits(7, 0), 0);
        check.due("there is no WORD 8", x.fits(8, 0), -2);
        PrickedPages one = Check.with("a", "a");
        check.due("one WORD", one.count(1), 1);
        check.due("it is 0", one.fits(0, 0), 0);
        check.due("there is no WORD 1", one.fits(1, 0), -2);
    }

    private void betweenWords() {
        check.edge("with ; between them");
        dueFault(";", 0);
        dueFault(";a", 0);
        dueFault("a;;b", 2);
        dueFault("a;b", -1);
        for (int b = 0; b <= 255; b++) {
            if (b != ';' && !(b >= 'a' && b <= 'j')) {
                dueFault("a" + (char) b + "b", 1);
            }
        }
    }

    private void wordLetters() {
        check.edge("letters a to j, 1 to 6");
        for (int b = 0; b <= 255; b++) {
            dueFault("" + (char) b, b >= 'a' && b <= 'j' ? -1 : 0);
        }
        dueFault("abcdef", -1);
        dueFault("ghijab;jjjjjj", -1);
        PrickedPages x = Check.with("abcdefghij", "a;abcdef;j");
        check.due("a WORD of one", x.fits(0, 0), 0);
        check.due("a WORD of six", x.fits(1, 0), 0);
        check.due("a WORD behind six", x.fits(2, 9), 0);
    }

    private void firstFault() {
        check.edge("The FAULT of a text is the place of the first byte with which it cannot go on");
        dueFault("a;k;abcdefgh;;", 2);
        dueFault("abcdefk", 6);
        dueFault("a.;", 1);
        check.due("a page", Check.with("a;bk", "").fault(0), 1);
        check.due("the first of a page", Check.with("kk", "").fault(0), 0);
        check.due("the last of a page", Check.with("aaaaaaaaaaaaaaaaaaaaaaak", "").fault(0), 23);
        PrickedPages x = Check.with("ak", "");
        check.due("the fault stays where it is", x.type(0, 'a') == 3 ? x.fault(0) : 0, 1);
    }

    private void emptyText() {
        check.edge("an empty one is well");
        PrickedPages x = new PrickedPages();
        check.due("a new page", x.fault(0), -1);
        check.due("new words", x.fault(1), -1);
        check.due("no WORDS", x.count(1), 0);
        Check.type(x, 0, "k");
        Check.type(x, 1, ";");
        x.wipe(0);
        x.wipe(1);
        check.due("a wiped page", x.fault(0), -1);
        check.due("wiped words", x.fault(1), -1);
    }

    private void notEnded() {
        check.edge("of one that is not ended, its end");
        dueFault("a;", 2);
        dueFault("abcdef;", 7);
        dueFault("a;b;", 4);
        dueFault(EIGHT + ";", 16);
        PrickedPages x = Check.with("", "ab;");
        check.due("no WORDS yet", x.count(1), 0);
        x.type(1, 'c');
        check.due("ended", x.fault(1), -1);
        check.due("two WORDS", x.count(1), 2);
    }

    private void seventhLetter() {
        check.edge("of a seventh letter of a WORD");
        dueFault("abcdefg", 6);
        dueFault("aaaaaaaa;b", 6);
        dueFault("a;bbbbbbb", 8);
        dueFault("a;b;c;d;e;f;g;aaaaaa", -1);
        dueFault("a;b;c;d;e;f;g;aaaaaaa", 20);
    }

    private void ninthWord() {
        check.edge("or of the first byte of a ninth");
        dueFault(EIGHT, -1);
        for (String behind : new String[] {"i", "ij", ";", "k", ".", "abcdefg"}) {
            dueFault(EIGHT + ";" + behind, 16);
        }
        String longest = "aaaaaa;bbbbbb;cccccc;dddddd;eeeeee;ffffff;gggggg;hhhhhh";
        dueFault(longest, -1);
        dueFault(longest + ";", 56);
        dueFault(longest + ";abcd", 56);
    }

    private void dueFault(String words, int fault) {
        PrickedPages x = Check.with("", words);
        check.due("fault of words " + words, x.fault(1), fault);
        check.holds("WORDS of " + words, x.count(1) > 0 == (fault == -1));
    }

    private void pageWithFault() {
        check.edge("With a FAULT it is as if it was empty");
        PrickedPages x = Check.with("abk", "a;ab");
        x.slip(0, 0, 0);
        x.slip(1, 5, 1);
        Check.row(x, 0, 0, 63, 63);
        check.due("fault", x.fault(0), 2);
        int[] counts = {0, 2, 3, 4, 2, 0, 25, 0};
        for (int what = 0; what < counts.length; what++) {
            check.due("count(" + what + ")", x.count(what), counts[what]);
        }
        check.due("cell(0)", x.cell(0), -2);
        check.due("letter(0)", x.letter(0), -2);
        check.due("judged()", x.judged(), -1);
        check.due("wrong(0)", x.wrong(0), -2);
        check.due("fits(0, 0)", x.fits(0, 0), -1);
        check.due("meant(0, 0)", x.meant(0, 0), -2);
        check.due("within(0, 9)", x.within(0, 9), -2);
        check.due("line(0)", x.line(0), 0);
        check.due("line(1)", x.line(1), 0);
        check.due("under(0, 0)", x.under(0, 0), 0);
        check.due("clash(0)", x.clash(0), -1);
        check.due("whose()", x.whose(), -1);
        check.due("wear(0, NONE)", x.wear(0, -1), 0);
        check.due("wear(0, 0)", x.wear(0, 0), -2);
        check.due("write(0)", x.write(0), 0);
        check.due("both(0)", x.both(0), -1);
    }

    private void wordsWithFault() {
        check.edge("With a FAULT it is as if it was empty (but");
        PrickedPages x = Check.with("ab", "a;cc;");
        check.due("fault", x.fault(1), 5);
        check.due("WORDS", x.count(1), 0);
        check.due("CELLS", x.count(0), 2);
        check.due("both(0)", x.both(0), -2);
        check.due("both(NONE)", x.both(-1), 0);
        check.due("fits(0, 0)", x.fits(0, 0), -2);
        check.due("meant(0, 0)", x.meant(0, 0), -1);
        check.due("within(0, 9)", x.within(0, 9), 0);
        check.due("line(0)", x.line(0), 6);
        check.due("line(1)", x.line(1), 0);
        check.due("shorts(8, 0)", x.shorts(8, 0), 0);
        check.due("shorts(8, 1)", x.shorts(8, 1), 0);
        check.due("under(0, 0)", x.under(0, 0), -2);
    }

    private void bytesTold() {
        check.edge("(but type(), wipe() and count() tell its bytes)");
        PrickedPages x = Check.with("k", "k;");
        check.due("type(0, a)", x.type(0, 'a'), 2);
        check.due("type(1, a)", x.type(1, 'a'), 3);
        check.due("count(2)", x.count(2), 2);
        check.due("count(3)", x.count(3), 3);
        check.due("wipe(0)", x.wipe(0), 2);
        check.due("wipe(1)", x.wipe(1), 3);
    }

    private void twelveSlips() {
        check.edge("SLIPS, 12 at most (0 on)");
        PrickedPages x = Check.with("a", "");
        check.due("none at first", x.count(4), 0);
        for (int i = 1; i <= 12; i++) {
            check.due("slip " + i + ", the same POINT again", x.slip(0, 1, 1), i);
        }
        check.due("a thirteenth", x.slip(0, 2, 1), -4);
        check.due("12 SLIPS", x.count(4), 12);
        check.due("the cell", x.cell(0), 3);
        check.due("undo", x.undo(), 11);
        check.due("room for one", x.slip(0, 2, 1), 12);
        check.due("the cell with it", x.cell(0), 7);
        check.due("no room again", x.slip(0, 2, 0), -4);
    }

    private void slipCells() {
        check.edge("of a cell of THE PAGE (0 to 23)");
        PrickedPages x = new PrickedPages();
        check.due("cell 0 of an empty page", x.slip(0, 5, 1), 1);
        check.due("cell 23 of an empty page", x.slip(23, 4, 1), 2);
        check.bad("slip(cell, 0, 1)", cell -> x.slip(cell, 0, 1), -1, 24);
        Check.type(x, 0, "........................");
        check.due("the first cell", x.cell(0), 32);
        check.due("the last cell", x.cell(23), 16);
        check.due("POINTS in all", x.count(5), 2);
    }

    private void slipPoints() {
        check.edge("a POINT (0 to 5)");
        for (int point = 0; point < 6; point++) {
            PrickedPages x = Check.with(".", "");
            check.due("slip(0, " + point + ", 1)", x.slip(0, point, 1), 1);
            check.due("cell with POINT " + point, x.cell(0), 1 << point);
        }
        PrickedPages x = Check.with(".", "");
        check.bad("slip(0, point, 1)", point -> x.slip(0, point, 1), -1, 6);
    }

    private void slipIs() {
        check.edge("is there (1), or not (0)");
        PrickedPages x = Check.with("a", "");
        check.due("one that is there, again", x.slip(0, 0, 1), 1);
        check.due("the same cell", x.cell(0), 1);
        check.due("one that is not there, not", x.slip(0, 1, 0), 2);
        check.due("still the same cell", x.cell(0), 1);
        check.due("no longer there", x.slip(0, 0, 0) == 3 ? x.cell(0) : -9, 0);
        check.due("now there", x.slip(0, 1, 1) == 4 ? x.cell(0) : -9, 2);
        check.bad("slip(0, 0, is)", is -> x.slip(0, 0, is), -1, 2);
    }

    private void latestSlip() {
        check.edge("the latest of a POINT holds");
        PrickedPages x = Check.with("a.", "");
        for (int k = 1; k <= 6; k++) {
            x.slip(0, 0, k % 2);
            check.due("cell behind slip " + k, x.cell(0), k % 2);
        }
        x.slip(0, 5, 1);
        x.slip(1, 0, 1);
        check.due("another POINT's slip leaves it", x.cell(0), 32);
        check.due("another cell's slip leaves it", x.cell(1), 1);
        x.slip(0, 0, 1);
        check.due("the latest", x.cell(0), 33);
    }

    private void asTheSign() {
        check.edge("else it is as the SIGN has it");
        PrickedPages x = Check.with("b", "");
        x.slip(0, 0, 0);
        x.slip(0, 5, 1);
        check.due("two slips", x.cell(0), 34);
        x.sign(1, 13);
        check.due("under another SIGN", x.cell(0), 44);
        x.undo();
        check.due("one slip", x.cell(0), 12);
        x.undo();
        check.due("no slip", x.cell(0), 13);
    }

    private void slipsOfCells() {
        check.edge("CELLS are those of THE PAGE's bytes, with SLIPS (of cells that there are)");
        PrickedPages x = Check.with("a", "");
        x.slip(1, 0, 1);
        x.slip(23, 5, 1);
        check.due("SLIPS count", x.count(4), 2);
        check.due("CELLS do not", x.count(0), 1);
        check.due("POINTS do not", x.count(5), 1);
        check.due("no cell 1", x.cell(1), -2);
        x.type(0, '.');
        check.due("cell 1 when it has come", x.cell(1), 1);
        check.due("POINTS then", x.count(5), 2);
        x.wipe(0);
        check.due("SLIPS behind a wipe", x.count(4), 2);
        check.due("no cell", x.count(0), 0);
        Check.type(x, 0, "ab");
        check.due("cell 1 typed anew", x.cell(1), 3);
    }

    private void newObject() {
        check.edge("An empty PAGE, no WORDS; all SHEETS are LOST.");
        PrickedPages x = new PrickedPages();
        int[] counts = {0, 0, 0, 0, 0, 0, 25, 0, 0};
        for (int what = 0; what < counts.length; what++) {
            check.due("count(" + what + ")", x.count(what), counts[what]);
        }
        check.due("no cell", x.cell(0), -2);
        check.due("no WORD", x.both(0), -2);
        check.due("nothing to undo", x.undo(), -3);
        for (int s = 0; s < 4; s++) {
            check.due("lose(" + s + ")", x.lose(s), -11);
        }
    }

    private void type() {
        check.edge("A byte (0 to 255) comes behind a text: how many. BAD; FULL.");
        PrickedPages x = new PrickedPages();
        check.due("the least byte", x.type(1, 0), 1);
        check.due("the greatest byte", x.type(1, 255), 2);
        check.bad("type(text, a)", text -> x.type(text, 'a'), -1, 2);
        check.bad("type(0, b)", b -> x.type(0, b), -1, 256, 'a' + 256);
        check.due("none has come", x.count(2), 0);
        Check.type(x, 0, "aaaaaaaaaaaaaaaaaaaaaaaa");
        check.due("FULL", x.type(0, 'a'), -4);
        check.bad("BAD before FULL", b -> x.type(0, b), -1, 256);
    }

    private void wipe() {
        check.edge("A text is empty: how many bytes it had. BAD.");
        PrickedPages x = Check.with("aaaaaaaaaaaaaaaaaaaaaaaa", "a;b");
        check.due("a full page", x.wipe(0), 24);
        check.due("an empty page", x.wipe(0), 0);
        check.due("no CELLS", x.count(0), 0);
        check.due("the words stay", x.count(1), 2);
        check.due("words", x.wipe(1), 3);
        check.due("no words", x.wipe(1), 0);
        check.due("no WORDS", x.count(1), 0);
        check.bad("wipe(text)", x::wipe, -1, 2);
    }

    private void fault() {
        check.edge("The FAULT of a text; NONE. BAD.");
        PrickedPages x = Check.with("k", "aa;;");
        check.due("of the page", x.fault(0), 0);
        check.due("of words", x.fault(1), 3);
        x.wipe(0);
        check.due("NONE", x.fault(0), -1);
        check.bad("fault(text)", x::fault, -1, 2);
    }

    private void sign() {
        check.edge("A SIGN: what it was. BAD.");
        PrickedPages x = Check.with("j", "j");
        check.due("as at first", x.sign(9, 1), 26);
        check.due("as set", x.sign(9, 2), 1);
        check.bad("sign(letter, 3)", letter -> x.sign(letter, 3), -1, 10);
        check.bad("sign(9, v)", v -> x.sign(9, v), 0, 64);
        check.due("unchanged", x.cell(0), 2);
        check.due("the word's, too", x.fits(0, 0), 0);
    }

    private void read() {
        check.edge("up to the first that is not 1 to 63, ten at most: how many. BAD; NULL.");
        check.due("the first is 0", readFrom(2, 0, 5), 0);
        check.due("1 and 63", readFrom(2, 1, 63), 2);
        check.due("64 behind them", readFrom(2, 1, 63, 64, 1), 2);
        check.due("-1 behind one", readFrom(0, 7, -1, 7), 1);
        check.due("0 at the end", readFrom(1, 7, 8, 9, 0), 3);
        check.due("no items", readFrom(1), 0);
        check.due("ten", readFrom(2, 1, 2, 3, 4, 5, 6, 7, 8, 9, 10), 10);
        check.due("eleven", readFrom(2, 1, 2, 3, 4, 5, 6, 7, 8, 9, 10, 11), 10);
        check.due("ten and a wrong one", readFrom(2, 1, 2, 3, 4, 5, 6, 7, 8, 9, 10, 0), 10);
        PrickedPages x = Check.with("abcdefghij", "");
        Check.row(x, 3, 0, 40, 41, 0, 42);
        x.read(3);
        int[] due = {40, 41, 9, 25, 17, 11, 27, 19, 10, 26};
        for (int i = 0; i < due.length; i++) {
            check.due("SIGN of letter " + i, x.cell(i), due[i]);
        }
        check.bad("read(s)", x::read, -1, 4);
        check.due("BAD is no FINDING", x.count(8), 0);
        check.due("a LOST one", x.read(2), -11);
        check.due("NULL", x.count(8), 1);
    }

    private static int readFrom(int form, int... items) {
        PrickedPages x = new PrickedPages();
        Check.row(x, 0, form, items);
        return x.read(0);
    }

    private void slip() {
        check.edge("A SLIP more: how many. BAD; FULL.");
        PrickedPages x = new PrickedPages();
        for (int i = 1; i <= 12; i++) {
            check.due("slip " + i, x.slip(i, 0, 1), i);
        }
        check.due("FULL", x.slip(0, 0, 0), -4);
        check.bad("BAD before FULL: cell", v -> x.slip(v, 0, 0), -1, 24);
        check.bad("BAD before FULL: point", v -> x.slip(0, v, 0), -1, 6);
        check.bad("BAD before FULL: is", v -> x.slip(0, 0, v), -1, 2);
    }

    private void undo() {
        check.edge("The last SLIP is undone: how many are left. NOT: none.");
        PrickedPages x = Check.with("b", "");
        check.due("none at first", x.undo(), -3);
        x.slip(0, 0, 0);
        x.slip(0, 0, 1);
        x.slip(0, 1, 0);
        check.due("three less one", x.undo(), 2);
        check.due("the cell", x.cell(0), 3);
        check.due("two less one", x.undo(), 1);
        check.due("the cell of the first slip", x.cell(0), 2);
        check.due("one less one", x.undo(), 0);
        check.due("the cell without", x.cell(0), 3);
        check.due("none again", x.undo(), -3);
        check.due("none are counted", x.count(4), 0);
    }

    private void set() {
        check.edge("MISS (what = 0), EXTRA (1): what it was. BAD.");
        PrickedPages x = Check.with("a", "b;a");
        check.due("MISS", x.set(0, 9), 1);
        check.due("EXTRA", x.set(1, 9), 2);
        check.bad("set(what, 1)", what -> x.set(what, 1), -1, 2);
        check.bad("set(0, v)", v -> x.set(0, v), -1, 10);
        check.bad("set(1, v)", v -> x.set(1, v), -1, 10);
        check.due("MISS 9", x.fits(0, 0), 9);
        check.due("MISS as it was", x.set(0, 0), 9);
        check.due("EXTRA as it was", x.set(1, 0), 9);
        check.due("MISS 0", x.fits(0, 0), 0);
    }

    private void often() {
        check.edge("OFTEN: what it was. BAD.");
        PrickedPages x = Check.with("", "ab");
        check.due("at first", x.often(0, 99), 1);
        check.due("behind it", x.often(0, 3), 99);
        check.bad("often(word, 1)", word -> x.often(word, 1), -1, 8);
        check.bad("often(0, v)", v -> x.often(0, v), -1, 100);
        check.due("unchanged", x.shorts(1, 1), 3);
    }
}
