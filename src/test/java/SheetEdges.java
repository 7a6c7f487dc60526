import java.math.BigInteger;

/** Boundary cases of SHEETS: the terms, and promises 29 to 36. */
final class SheetEdges {
    private static final int LEAST = Check.LEAST, GREATEST = Check.GREATEST;
    private final Check check;

    SheetEdges(Check check) {
        this.check = check;
    }

    void all() {
        lostAtFirst();
        forms();
        items();
        findingNumbers();
        findingNull();
        findingIndex();
        findingCast();
        findingStore();
        findingSize();
        sheet();
        lose();
        putBits();
        put();
        get();
        copyAsTheyWere();
        copyIndex();
        copy();
        write();
        count();
        countCells();
        latestFinding();
        digest();
        digestOfEach();
    }

    private void lostAtFirst() {
        check.edge("SHEETS 0 .. 3 are LOST (at first)");
        PrickedPages x = Check.with("a", "");
        for (int s = 0; s < 4; s++) {
            check.due("lose(" + s + ")", x.lose(s), -11);
            check.due("write(" + s + ")", x.write(s), -11);
        }
        for (int s = 0; s < 4; s++) {
            check.due("sheet(" + s + ", 2, 1)", x.sheet(s, 2, 1), 1);
            check.due("put(" + s + ", 2, 0, s)", x.put(s, 2, 0, s), 1);
        }
        for (int s = 0; s < 4; s++) {
            check.due("each has its own item", x.get(s, 2, 0), s);
        }
        check.bad("lose(s)", x::lose, -1, 4);
    }

    private void forms() {
        check.edge("0 bytes, 1 shorts, 2 ints");
        int[] least = {-128, -32768, LEAST};
        int[] greatest = {127, 32767, GREATEST};
        PrickedPages x = new PrickedPages();
        for (int form = 0; form <= 2; form++) {
            Check.row(x, form, form, least[form], greatest[form]);
            check.due("the least of form " + form, x.get(form, form, 0), least[form]);
            check.due("the greatest of form " + form, x.get(form, form, 1), greatest[form]);
        }
        check.bad("sheet(3, form, 1)", form -> x.sheet(3, form, 1), -1, 3);
        check.due("a FORM that is none", x.get(0, 3, 0), LEAST);
        check.due("is no FINDING", x.count(8), 0);
    }

    private void items() {
        check.edge("of 0 to 48 items (0 at first)");
        PrickedPages x = new PrickedPages();
        check.due("no items", x.sheet(0, 0, 0), 0);
        check.due("it is not LOST", x.lose(0), 0);
        check.due("48 items", x.sheet(0, 1, 48), 48);
        for (int i = 0; i < 48; i++) {
            check.due("item " + i, x.get(0, 1, i), 0);
            x.put(0, 1, i, i + 1);
        }
        check.due("49 items", x.sheet(0, 1, 49), -2);
        check.due("the last item stays", x.get(0, 1, 47), 48);
        check.due("a new row", x.sheet(0, 2, 48), 48);
        for (int i = 0; i < 48; i++) {
            check.due("item " + i + " of the new row", x.get(0, 2, i), 0);
        }
        x.put(0, 2, 3, 9);
        x.lose(0);
        x.sheet(0, 2, 4);
        check.due("a row behind a LOST one", x.get(0, 2, 3), 0);
    }

    private void findingNumbers() {
        check.edge("FINDINGS (answers -10 less the number; they change nothing but count() 8)");
        PrickedPages x = new PrickedPages();
        check.due("NULL", x.lose(0), -11);
        check.due("count(8)", x.count(8), 1);
        x.sheet(0, 0, 1);
        x.sheet(1, 1, 1);
        check.due("INDEX", x.put(0, 0, 1, 0), -12);
        check.due("count(8)", x.count(8), 2);
        check.due("CAST", x.put(0, 1, 0, 0), -13);
        check.due("count(8)", x.count(8), 3);
        check.due("STORE", x.copy(0, 0, 1, 0, 1), -14);
        check.due("count(8)", x.count(8), 4);
        check.due("SIZE", x.sheet(0, 0, -1), -15);
        check.due("count(8)", x.count(8), 5);
    }

    private void findingNull() {
        check.edge("1 NULL: the SHEET is LOST");
        PrickedPages x = Check.with("a", "");
        x.sheet(0, 0, 2);
        dueFinding(x, "read(1)", x.read(1), 1);
        dueFinding(x, "clash(1)", x.clash(1), 1);
        dueFinding(x, "lose(1)", x.lose(1), 1);
        dueFinding(x, "put(1, 0, 0, 0)", x.put(1, 0, 0, 0), 1);
        dueFinding(x, "copy(1, 0, 0, 0, 0)", x.copy(1, 0, 0, 0, 0), 1);
        dueFinding(x, "copy(0, 0, 1, 0, 0)", x.copy(0, 0, 1, 0, 0), 1);
        dueFinding(x, "copy(1, 0, 1, 0, 0)", x.copy(1, 0, 1, 0, 0), 1);
        dueFinding(x, "write(1)", x.write(1), 1);
        check.due("get(1, 0, 0)", x.get(1, 0, 0), LEAST);
        check.due("count(8) behind get", x.count(8), 1);
        x.lose(0);
        dueFinding(x, "one that was there", x.write(0), 1);
    }

    private void findingIndex() {
        check.edge("2 INDEX: there is no such item");
        PrickedPages x = new PrickedPages();
        x.sheet(0, 2, 48);
        x.sheet(1, 2, 0);
        for (int i : new int[] {-1, 48, LEAST, GREATEST}) {
            dueFinding(x, "put(0, 2, " + i + ", 0)", x.put(0, 2, i, 0), 2);
            check.due("get(0, 2, " + i + ")", x.get(0, 2, i), LEAST);
            check.due("count(8) behind get", x.count(8), 2);
        }
        dueFinding(x, "put into no items", x.put(1, 2, 0, 0), 2);
        check.due("the last item", x.put(0, 2, 47, 1), 1);
        check.due("the first item", x.put(0, 2, 0, 1), 1);
    }

    private void findingCast() {
        check.edge("3 CAST: it has another FORM");
        PrickedPages x = new PrickedPages();
        for (int form = 0; form <= 2; form++) {
            x.sheet(form, form, 1);
        }
        for (int form = 0; form <= 2; form++) {
            for (int as = 0; as <= 2; as++) {
                int put = x.put(form, as, 0, 7);
                check.due("put into form " + form + " as " + as, put, form == as ? 1 : -13);
                check.due("get from form " + form + " as " + as, x.get(form, as, 0), form == as ? 7 : LEAST);
            }
        }
        check.due("count(8)", x.count(8), 3);
    }

    private void findingStore() {
        check.edge("4 STORE: unlike FORMS");
        PrickedPages x = new PrickedPages();
        for (int form = 0; form <= 2; form++) {
            x.sheet(form, form, 1);
        }
        for (int s = 0; s <= 2; s++) {
            for (int t = 0; t <= 2; t++) {
                check.due("copy from form " + s + " to " + t, x.copy(s, 0, t, 0, 1), s == t ? 1 : -14);
                check.due("of none", x.copy(s, 0, t, 0, 0), s == t ? 1 : -14);
            }
        }
        check.due("count(8)", x.count(8), 4);
    }

    private void findingSize() {
        check.edge("5 SIZE: below 0");
        PrickedPages x = new PrickedPages();
        dueFinding(x, "sheet(0, 0, -1)", x.sheet(0, 0, -1), 5);
        dueFinding(x, "sheet(0, 0, the least int)", x.sheet(0, 0, LEAST), 5);
        check.due("still LOST", x.lose(0), -11);
        Check.row(x, 0, 1, 4, 5);
        dueFinding(x, "over a row", x.sheet(0, 2, -1), 5);
        check.due("the row stays", x.get(0, 1, 1), 5);
    }

    private void dueFinding(PrickedPages x, String call, int got, int number) {
        check.due(call, got, -10 - number);
        check.due("count(8) behind " + call, x.count(8), number);
    }

    private void sheet() {
        check.edge("A SHEET is a new row of a FORM with n items: n. BAD: SHEET, FORM, above 48; SIZE.");
        PrickedPages x = new PrickedPages();
        check.due("0 items", x.sheet(0, 0, 0), 0);
        check.due("48 items", x.sheet(3, 2, 48), 48);
        check.bad("sheet(s, 0, 1)", s -> x.sheet(s, 0, 1), -1, 4);
        check.bad("sheet(0, form, 1)", form -> x.sheet(0, form, 1), -1, 3);
        check.due("49 items", x.sheet(0, 0, 49), -2);
        check.due("the greatest int", x.sheet(0, 0, GREATEST), -2);
        check.bad("BAD before SIZE: SHEET", s -> x.sheet(s, 0, -1), -1, 4);
        check.bad("BAD before SIZE: FORM", form -> x.sheet(0, form, -1), -1, 3);
        check.due("no FINDING yet", x.count(8), 0);
        check.due("SIZE", x.sheet(0, 0, -1), -15);
        x.put(3, 2, 47, 5);
        check.due("fewer items, another FORM", x.sheet(3, 0, 2), 2);
        check.due("its last item", x.get(3, 0, 1), 0);
        check.due("no item behind it", x.put(3, 0, 2, 1), -12);
        check.due("its FORM", x.put(3, 2, 0, 1), -13);
    }

    private void lose() {
        check.edge("It is LOST: how many items it had. BAD; NULL.");
        PrickedPages x = new PrickedPages();
        x.sheet(0, 0, 48);
        x.sheet(1, 0, 0);
        check.due("48", x.lose(0), 48);
        check.due("none", x.lose(1), 0);
        check.bad("lose(s)", x::lose, -1, 4);
        check.due("no FINDING yet", x.count(8), 0);
        check.due("again", x.lose(0), -11);
        check.due("again, of none", x.lose(1), -11);
        check.due("never made", x.lose(2), -11);
        check.due("NULL", x.count(8), 1);
    }

    private void putBits() {
        check.edge("becomes v (the lowest bits that it has, with its sign; by write(), too): 1.");
        int[][] rows = {{0, 127, 127}, {0, 128, -128}, {0, 255, -1}, {0, 256, 0}, {0, -128, -128}, {0, -129, 127},
            {0, GREATEST, -1}, {0, LEAST, 0}, {1, 32767, 32767}, {1, 32768, -32768}, {1, 65535, -1}, {1, 65536, 0},
            {1, -32768, -32768}, {1, -32769, 32767}, {1, GREATEST, -1}, {1, LEAST, 0}, {2, 65536, 65536},
            {2, GREATEST, GREATEST}, {2, LEAST, LEAST}, {2, -1, -1}};
        PrickedPages x = Check.with("aa", "");
        for (int form = 0; form <= 2; form++) {
            x.sheet(form, form, 1);
        }
        for (int[] row : rows) {
            check.due("put " + row[1] + " as form " + row[0], x.put(row[0], row[0], 0, row[1]), 1);
            check.due("get of it", x.get(row[0], row[0], 0), row[2]);
        }
        x.sign(0, 63);
        for (int form = 0; form <= 2; form++) {
            check.due("write to form " + form, x.write(form), 1);
            check.due("the greatest cell in form " + form, x.get(form, form, 0), 63);
        }
    }

    private void put() {
        check.edge("with its sign; by write(), too): 1. BAD; NULL; CAST; INDEX.");
        PrickedPages x = new PrickedPages();
        check.bad("put(s, 0, 0, 0)", s -> x.put(s, 0, 0, 0), -1, 4);
        check.bad("put(0, form, 0, 0)", form -> x.put(0, form, 0, 0), -1, 3);
        check.due("BAD is no FINDING", x.count(8), 0);
        check.due("NULL", x.put(0, 0, 9, 0), -11);
        x.sheet(0, 1, 2);
        check.due("CAST before INDEX", x.put(0, 0, 2, 0), -13);
        check.due("INDEX", x.put(0, 1, 2, 0), -12);
        check.due("INDEX below 0", x.put(0, 1, -1, 0), -12);
        check.due("the last item", x.put(0, 1, 1, 3), 1);
        check.due("it became so", x.get(0, 1, 1), 3);
        check.due("the first stays", x.get(0, 1, 0), 0);
    }

    private void get() {
        check.edge("Item i of it. BAD: the least int; so are NULL, CAST, INDEX (count() 8 tells).");
        PrickedPages x = new PrickedPages();
        for (int v : new int[] {-1, 4, LEAST, GREATEST}) {
            check.due("get(" + v + ", 0, 0)", x.get(v, 0, 0), LEAST);
        }
        for (int v : new int[] {-1, 3, LEAST, GREATEST}) {
            check.due("get(0, " + v + ", 0)", x.get(0, v, 0), LEAST);
        }
        check.due("BAD is no FINDING", x.count(8), 0);
        check.due("NULL", x.get(0, 0, 9), LEAST);
        check.due("count(8) of NULL", x.count(8), 1);
        x.sheet(0, 2, 1);
        check.due("CAST before INDEX", x.get(0, 0, 9), LEAST);
        check.due("count(8) of CAST", x.count(8), 3);
        check.due("INDEX", x.get(0, 2, 1), LEAST);
        check.due("count(8) of INDEX", x.count(8), 2);
        check.due("BAD", x.get(4, 2, 0), LEAST);
        check.due("count(8) as it was", x.count(8), 2);
        x.put(0, 2, 0, LEAST);
        check.due("an item that is the least int", x.get(0, 2, 0), LEAST);
        check.due("no FINDING more", x.count(8), 2);
    }

    private void copyAsTheyWere() {
        check.edge("come to SHEET t (perhaps s, as they were), from j on: 1.");
        PrickedPages x = new PrickedPages();
        Check.row(x, 0, 2, 1, 2, 3, 4, 5);
        check.due("to the right", x.copy(0, 0, 0, 1, 4), 1);
        dueItems(x, 0, 1, 1, 2, 3, 4);
        Check.row(x, 0, 2, 1, 2, 3, 4, 5);
        check.due("to the left", x.copy(0, 1, 0, 0, 4), 1);
        dueItems(x, 0, 2, 3, 4, 5, 5);
        check.due("all to where they are", x.copy(0, 0, 0, 0, 5), 1);
        dueItems(x, 0, 2, 3, 4, 5, 5);
        Check.row(x, 1, 2, 9);
        check.due("to another, its last item", x.copy(0, 2, 1, 0, 1), 1);
        dueItems(x, 1, 4);
        dueItems(x, 0, 2, 3, 4, 5, 5);
    }

    private void copyIndex() {
        check.edge("INDEX: i, j or n below 0, not so many there (of n 0, too: i or j above the size).");
        PrickedPages x = new PrickedPages();
        Check.row(x, 0, 2, 1, 2, 3, 4);
        Check.row(x, 1, 2, 7, 8, 9);
        int[][] refused = {{-1, 0, 1}, {0, -1, 1}, {0, 0, -1}, {-1, 0, 0}, {0, -1, 0}, {-1, -1, 2}, {LEAST, 0, 1}, {0, LEAST, 1},
            {0, 0, LEAST}, {0, 0, 4}, {0, 0, 5}, {2, 0, 3}, {0, 1, 3}, {4, 0, 1}, {0, 3, 1}, {5, 0, 0}, {0, 4, 0}, {5, 0, -1},
            {GREATEST, 0, 1}, {0, GREATEST, 1}, {GREATEST, 0, 0}, {0, GREATEST, 0}, {1, 1, GREATEST}, {0, 0, GREATEST},
            {GREATEST, GREATEST, GREATEST}, {LEAST, LEAST, LEAST}, {48, 0, 0}};
        for (int[] r : refused) {
            dueFinding(x, "copy(0, " + r[0] + ", 1, " + r[1] + ", " + r[2] + ")", x.copy(0, r[0], 1, r[1], r[2]), 2);
        }
        dueItems(x, 0, 1, 2, 3, 4);
        dueItems(x, 1, 7, 8, 9);
        check.due("of n 0, i and j at the size", x.copy(0, 4, 1, 3, 0), 1);
        check.due("of n 0, i and j 0", x.copy(0, 0, 1, 0, 0), 1);
        check.due("as many as there are", x.copy(0, 1, 1, 0, 3), 1);
        dueItems(x, 1, 2, 3, 4);
        x.sheet(2, 2, 0);
        check.due("of n 0 from no items", x.copy(2, 0, 2, 0, 0), 1);
        check.due("one from no items", x.copy(2, 0, 1, 0, 1), -12);
        check.due("one to no items", x.copy(1, 0, 2, 0, 1), -12);
        x.sheet(2, 2, 48);
        x.sheet(3, 2, 48);
        check.due("48 items", x.copy(2, 0, 3, 0, 48), 1);
        check.due("49 items", x.copy(2, 0, 3, 0, 49), -12);
    }

    private void copy() {
        check.edge("BAD: the SHEETS; NULL: s, t; STORE; INDEX:");
        PrickedPages x = new PrickedPages();
        check.bad("copy(s, 0, 0, 0, 0)", s -> x.copy(s, 0, 0, 0, 0), -1, 4);
        check.bad("copy(0, 0, t, 0, 0)", t -> x.copy(0, 0, t, 0, 0), -1, 4);
        check.due("BAD is no FINDING", x.count(8), 0);
        x.sheet(0, 0, 1);
        check.due("t is LOST", x.copy(0, -1, 1, 0, 1), -11);
        check.due("s is LOST", x.copy(1, -1, 0, 0, 1), -11);
        check.bad("BAD before NULL: t", t -> x.copy(1, 0, t, 0, 0), -1, 4);
        check.bad("BAD before NULL: s", s -> x.copy(s, 0, 1, 0, 0), -1, 4);
        x.sheet(1, 1, 1);
        check.due("STORE before INDEX", x.copy(0, -1, 1, 0, 1), -14);
        x.sheet(1, 0, 1);
        check.due("INDEX", x.copy(0, -1, 1, 0, 1), -12);
        check.due("copied", x.copy(0, 0, 1, 0, 1), 1);
    }

    private void write() {
        check.edge("as many as there are items and CELLS: how many. BAD; NULL.");
        PrickedPages x = Check.with("abc", "");
        Check.row(x, 0, 2, -1, -1);
        check.due("fewer items", x.write(0), 2);
        dueItems(x, 0, 1, 3);
        Check.row(x, 0, 2, -1, -1, -1);
        check.due("as many items", x.write(0), 3);
        dueItems(x, 0, 1, 3, 9);
        Check.row(x, 0, 2, -1, -1, -1, -1);
        check.due("more items", x.write(0), 3);
        dueItems(x, 0, 1, 3, 9, -1);
        x.sheet(1, 0, 0);
        check.due("no items", x.write(1), 0);
        x.slip(0, 5, 1);
        check.due("with SLIPS", x.write(0), 3);
        dueItems(x, 0, 33, 3, 9, -1);
        check.bad("write(s)", x::write, -1, 4);
        check.due("BAD is no FINDING", x.count(8), 0);
        check.due("LOST", x.write(2), -11);
        x.wipe(0);
        check.due("no CELLS", x.write(0), 0);
        dueItems(x, 0, 33, 3, 9, -1);
        Check.type(x, 0, "bbbbbbbbbbbbbbbbbbbbbbbb");
        x.sheet(0, 2, 48);
        check.due("a full page", x.write(0), 24);
        check.due("its last cell", x.get(0, 2, 23), 3);
        check.due("the item behind it", x.get(0, 2, 24), 0);
    }

    private void dueItems(PrickedPages x, int s, int... items) {
        for (int i = 0; i < items.length; i++) {
            check.due("item " + i + " of SHEET " + s, x.get(s, 2, i), items[i]);
        }
    }

    private void count() {
        check.edge("0 CELLS, 1 WORDS, 2, 3 bytes of texts, 4 SLIPS, 5 POINTS of all CELLS, 6 POINTS of all SIGNS");
        PrickedPages x = Check.with("bbbbbbbbbbbbbbbbbbbbbbbb", "a;a;a;a;a;a;a;a");
        for (int i = 0; i < 12; i++) {
            x.slip(i, 5, 1);
        }
        int[] due = {24, 8, 24, 15, 12, 60, 25};
        for (int what = 0; what < due.length; what++) {
            check.due("count(" + what + ")", x.count(what), due[what]);
        }
        for (int letter = 0; letter < 10; letter++) {
            x.sign(letter, 63);
        }
        check.due("the most POINTS of CELLS", x.count(5), 144);
        check.due("the most POINTS of SIGNS", x.count(6), 60);
        check.bad("count(what)", x::count, -1, 9);
    }

    private void countCells() {
        check.edge("7 CELLS that are READ as LETTERS");
        PrickedPages x = Check.with("a.jb", "");
        check.due("a space is no LETTER", x.count(7), 3);
        x.slip(1, 0, 1);
        check.due("a space that is READ as one", x.count(7), 4);
        x.slip(0, 0, 0);
        check.due("a letter that is READ as a space", x.count(7), 3);
        x.slip(3, 5, 1);
        check.due("a letter that is READ as NONE", x.count(7), 2);
        check.due("no CELLS", new PrickedPages().count(7), 0);
    }

    private void latestFinding() {
        check.edge("8 the number of the latest FINDING (0 before any). BAD.");
        PrickedPages x = new PrickedPages();
        check.due("before any", x.count(8), 0);
        x.sheet(0, 0, -1);
        check.due("SIZE", x.count(8), 5);
        x.lose(0);
        check.due("the latest, NULL", x.count(8), 1);
        x.lose(4);
        x.undo();
        x.sheet(0, 0, 1);
        check.due("BAD, NOT and what goes well leave it", x.count(8), 1);
        x.put(0, 1, 0, 0);
        check.due("the latest, CAST", x.count(8), 3);
        check.bad("count(what)", x::count, -1, 9);
    }

    private void digest() {
        check.edge("h is 17; h becomes 31 h and each of");
        PrickedPages x = new PrickedPages();
        check.due("a new object", x.digest(), told(x));
        check.due("texts with FAULTS", Check.with("k", ";").digest(), told(Check.with("k", ";")));
        check.due("a page alone", Check.with("abc.", "").digest(), told(Check.with("abc.", "")));
        check.due("words alone", Check.with("", "df;c").digest(), told(Check.with("", "df;c")));
    }

    private void digestOfEach() {
        check.edge("as longs that wrap");
        for (int many = 0; many < 40; many++) {
            PrickedPages x = Check.with("dfc.ab.ghij.bb.fa.edcabj".substring(0, many % 25),
                "df;c;ab;cc;f;d;abcdef;b".substring(0, many % 24));
            for (int k = 0; k < many % 13; k++) {
                x.slip(k * 5 % 24, k * 7 % 6, k % 3 / 2);
            }
            x.hand(many % 3, many % 6, many);
            x.often(many % 8, many);
            x.set(many % 2, many % 10);
            x.sign(many % 10, 1 + many);
            check.due("digest of object " + many, x.digest(), told(x));
        }
    }

    /** What the digest is due to be, by the answers of the other calls. */
    private static long told(PrickedPages x) {
        Digest h = new Digest();
        for (int what = 0; what <= 7; what++) {
            h.add(x.count(what));
        }
        h.add(x.fault(0), x.fault(1), x.judged());
        for (int i = 0; i < x.count(0); i++) {
            h.add(x.cell(i), x.letter(i), x.wrong(i), x.meant(i, 0), x.meant(i, 1), x.within(i, 5));
        }
        for (int w = 0; w < x.count(1); w++) {
            h.add(x.both(w), x.fits(w, 0), x.under(w, 0));
        }
        h.add(x.both(-1), x.line(0), x.line(1), x.slippery());
        for (int letter = 0; letter < 10; letter++) {
            h.add(x.better(letter));
        }
        h.add(x.shorts(3, 0), x.shorts(3, 1), x.shorts(3, 2), x.whose(), x.wear(20, -1));
        return h.value.longValue();
    }

    /** Numbers that never wrap; the lowest 64 bits are taken at the end. */
    private static final class Digest {
        private BigInteger value = BigInteger.valueOf(17);

        private void add(int... numbers) {
            for (int v : numbers) {
                value = value.multiply(BigInteger.valueOf(31)).add(BigInteger.valueOf(v));
            }
        }
    }
}
