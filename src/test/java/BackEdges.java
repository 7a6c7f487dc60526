/** Boundary cases of what lies under and behind a page: the terms of the fourth part, and promises 24 to 28. */
final class BackEdges {
    private static final int GREATEST = Check.GREATEST;
    private final Check check;

    BackEdges(Check check) {
        this.check = check;
    }

    void all() {
        underNoOthers();
        underTheSame();
        underAsMany();
        clashCells();
        clashBehind();
        clashFirst();
        hands();
        habits();
        whoseMissing();
        whoseSum();
        whoseMost();
        readings();
        wearGreatest();
        wearNext();
        wearAnew();
        wearLeft();
        under();
        clash();
        hand();
        whose();
        wear();
    }

    private void underNoOthers() {
        check.edge("CELLS have all POINTS of a WORD from a place on, and of another WORD (perhaps the same) from there on, "
            + "and no others");
        // f is b and c on one another; g is f and one POINT more.
        PrickedPages x = Check.with("fb", "b;c;a;d;fb");
        check.due("b and c", x.under(0, 0), 0b00010);
        check.due("c and b", x.under(1, 0), 0b00001);
        check.due("a leaves POINTS that no other WORD has", x.under(2, 0), 0);
        check.due("d has a POINT that is not there", x.under(3, 0), 0);
        check.due("two letters", x.under(4, 0), 0b10000);
        check.due("b and b or a from place 1", x.under(0, 1), 0b00101);
        x.slip(0, 5, 1);
        check.due("one POINT too many", x.under(0, 0), 0);
        x.undo();
        x.slip(0, 3, 0);
        check.due("one POINT of c is not there", x.under(1, 0), 0);
        check.due("b and b or a where c's POINT is not there", x.under(0, 0), 0b00101);
    }

    private void underTheSame() {
        check.edge("(perhaps the same)");
        check.due("a and a", Check.with("a", "a").under(0, 0), 1);
        check.due("two words alike", Check.with("ab", "ab;ab").under(1, 0), 0b11);
        check.due("eight alike", Check.with("c", "c;c;c;c;c;c;c;c").under(7, 0), 255);
    }

    private void underAsMany() {
        check.edge("with the first told, which the other one can be (of as many letters), as bits");
        PrickedPages x = Check.with("aaa", "a;aa;aaa");
        check.due("one letter", x.under(0, 0), 0b001);
        check.due("two letters", x.under(1, 0), 0b010);
        check.due("three letters", x.under(2, 0), 0b100);
        check.due("two letters at the last place for them", x.under(1, 1), 0b010);
        check.due("one cell too few", x.under(1, 2), 0);
        check.due("one letter at the last cell", x.under(0, 2), 0b001);
    }

    private void clashCells() {
        check.edge("a told SHEET's items are cells (0 to 63) printed on the back");
        dueClash("a", -1, 0);
        dueClash("a", 0, 63);
        dueClash("a", -3, 64);
        dueClash("a", -3, -1);
        dueClash("a", -3, GREATEST);
        dueClash("a", -3, Check.LEAST);
        dueClash("a", -3, 8, 64);
        dueClash("aa", -3, 64, 8);
        dueClash("", -3, 0, 0, 64);
        dueClash("", -1, 0, 0, 63);
    }

    private void clashBehind() {
        check.edge("from the right edge on as seen from the front (the first item behind the last cell of THE PAGE), MIRRORED");
        dueClash("abc", 2, 8);
        dueClash("abc", 1, 0, 8);
        dueClash("abc", 0, 0, 0, 8);
        dueClash("abc", -1, 0, 0, 0, 8);
        dueClash("a", -1, 1);
        dueClash("a", -1, 0b110111);
        dueClash("c", 0, 1);
        dueClash("c", 0, 8);
        dueClash("c", -1, 0b110110);
        dueClash("aaaaaaaaaaaaaaaaaaaaaaaa", 23, 8);
    }

    private void clashFirst() {
        check.edge("the first cell of THE PAGE in which some POINT of both is at one place; NONE.");
        dueClash("aaa", 0, 8, 8, 8);
        dueClash("aaa", 1, 8, 8, 0);
        dueClash(".aa", 1, 63, 63, 63);
        dueClash("...", -1, 63, 63, 63);
        dueClash("aaa", -1);
        dueClash("", -1, 63);
        int[] items = new int[48];
        items[23] = 8;
        dueClash("aaaaaaaaaaaaaaaaaaaaaaaa", 0, items);
        items[23] = 0;
        items[24] = 8;
        dueClash("aaaaaaaaaaaaaaaaaaaaaaaa", -1, items);
    }

    private void dueClash(String page, int due, int... items) {
        PrickedPages x = Check.with(page, "");
        Check.row(x, 3, 2, items);
        check.due("clash of " + items.length + " items behind " + page, x.clash(3), due);
        check.due("which is no FINDING", x.count(8), 0);
    }

    private void hands() {
        check.edge("HANDS 0 to 2: habits");
        PrickedPages x = new PrickedPages();
        for (int hand = 0; hand < 3; hand++) {
            check.due("hand(" + hand + ", 0, 7)", x.hand(hand, 0, 7 + hand), 0);
        }
        for (int hand = 0; hand < 3; hand++) {
            check.due("hand " + hand + " has its own", x.hand(hand, 0, 0), 7 + hand);
        }
        check.bad("hand(hand, 0, 0)", hand -> x.hand(hand, 0, 0), -1, 3);
    }

    private void habits() {
        check.edge("of a HAND each POINT was skipped so often (0 to 99; 0 at first)");
        PrickedPages x = new PrickedPages();
        for (int point = 0; point < 6; point++) {
            check.due("at first", x.hand(2, point, 99), 0);
            check.due("99 of POINT " + point, x.hand(2, point, point), 99);
        }
        for (int point = 0; point < 6; point++) {
            check.due("each POINT has its own", x.hand(2, point, 0), point);
            check.due("0 of POINT " + point, x.hand(2, point, 0), 0);
        }
        check.bad("hand(2, point, 0)", point -> x.hand(2, point, 0), -1, 6);
        check.bad("hand(2, 5, v)", v -> x.hand(2, 5, v), -1, 100);
    }

    private void whoseMissing() {
        check.edge("of all POINTS of LETTERS of THE PAGE that are not there (by SLIPS)");
        PrickedPages x = Check.with("a.", "");
        x.hand(1, 0, 5);
        x.slip(1, 0, 0);
        check.due("a space has no POINTS that could miss", x.whose(), -1);
        x.slip(0, 1, 0);
        check.due("nor has a letter others than its own", x.whose(), -1);
        x.slip(0, 5, 1);
        check.due("a raised POINT is there", x.whose(), -1);
        x.slip(2, 0, 0);
        check.due("nothing is missing where no cell is", x.whose(), -1);
        x.slip(0, 0, 0);
        check.due("the POINT of a", x.whose(), 1);
        x.slip(0, 0, 1);
        check.due("it is there by a later SLIP", x.whose(), -1);
    }

    private void whoseSum() {
        check.edge("the sum of what each HAND skipped them");
        PrickedPages x = Check.with("bb", "");
        x.hand(0, 0, 3);
        x.hand(1, 1, 7);
        x.hand(2, 0, 2);
        x.hand(2, 1, 2);
        x.hand(2, 5, 99);
        x.slip(0, 0, 0);
        x.slip(1, 0, 0);
        check.due("3 and 3", x.whose(), 0);
        x.slip(1, 1, 0);
        check.due("7", x.whose(), 1);
        x.hand(2, 0, 3);
        check.due("3 and 3 and 2", x.whose(), 2);
        x.slip(1, 1, 0);
        x.slip(1, 1, 0);
        check.due("a POINT that misses counts once", x.whose(), 2);
    }

    private void whoseMost() {
        check.edge("the HAND with the most, of like ones the least; NONE: no POINT is missing.");
        PrickedPages x = Check.with("a", "");
        check.due("no POINT is missing", x.whose(), -1);
        x.slip(0, 0, 0);
        check.due("no habits", x.whose(), 0);
        x.hand(2, 0, 1);
        check.due("the last HAND alone", x.whose(), 2);
        x.hand(1, 0, 1);
        check.due("two alike", x.whose(), 1);
        x.hand(0, 0, 1);
        check.due("three alike", x.whose(), 0);
        x.hand(2, 0, 99);
        check.due("the most", x.whose(), 2);
    }

    private void readings() {
        check.edge("WEAR behind n (0 to 99) READINGS");
        PrickedPages x = Check.with("aaaaaaaaaaaaaaaaaaaaaaaa", "");
        x.sign(0, 63);
        check.due("none", x.wear(0, -1), 144);
        check.due("one", x.wear(1, -1), 143);
        check.due("99", x.wear(99, -1), 45);
        int[] cells = {0, 2, 3, 23};
        int[] due = {1, 1, 3, 3};
        for (int i = 0; i < cells.length; i++) {
            check.due("cell " + cells[i] + " behind 99", x.wear(99, cells[i]), due[i]);
        }
        check.bad("wear(n, NONE)", n -> x.wear(n, -1), -1, 100);
        check.bad("wear(n, 0)", n -> x.wear(n, 0), -1, 100);
    }

    private void wearGreatest() {
        check.edge("each takes one POINT, the greatest (by its bit) of a cell");
        PrickedPages x = Check.with("a", "");
        x.sign(0, 63);
        int[] due = {63, 31, 15, 7, 3, 1, 0, 0};
        for (int n = 0; n < due.length; n++) {
            check.due("behind " + n, x.wear(n, 0), due[n]);
        }
        x.sign(0, 41);
        check.due("32 first", x.wear(1, 0), 9);
        check.due("then 8", x.wear(2, 0), 1);
        check.due("then 1", x.wear(3, 0), 0);
    }

    private void wearNext() {
        check.edge("of the first cell, from THE PAGE's beginning on, that has any, then of the next one that has any behind it");
        dueWorn("..a.b", 1, 0, 0, 0, 0, 3);
        dueWorn("..a.b", 2, 0, 0, 0, 0, 1);
        dueWorn("bbb", 1, 1, 3, 3);
        dueWorn("bbb", 2, 1, 1, 3);
        dueWorn("b.b", 2, 1, 0, 1);
    }

    private void wearAnew() {
        check.edge("behind the last one it begins anew");
        dueWorn("bb", 3, 0, 1);
        dueWorn("bb", 4, 0, 0);
        dueWorn("ga", 3, 3, 0);
        dueWorn("ag", 3, 0, 3);
        dueWorn("b..", 2, 0, 0, 0);
        dueWorn(".g.", 4, 0, 0, 0);
        dueWorn("aba", 4, 0, 0, 0);
        dueWorn("ab", 99, 0, 0);
        check.due("without CELLS", new PrickedPages().wear(99, -1), 0);
        check.due("without POINTS", Check.with("...", "").wear(99, -1), 0);
    }

    private void wearLeft() {
        check.edge("how many POINTS are left in all; what is left of a cell.");
        dueWorn("g.b", 0, 27, 0, 3);
        dueWorn("g.b", 1, 11, 0, 3);
        PrickedPages x = Check.with("g", "");
        x.slip(0, 5, 1);
        check.due("a raised POINT goes first", x.wear(1, 0), 27);
        check.due("no POINT goes really", x.cell(0), 59);
        check.due("nor in all", x.count(5), 5);
        check.due("asked again", x.wear(1, 0), 27);
    }

    private void dueWorn(String page, int n, int... cells) {
        PrickedPages x = Check.with(page, "");
        int points = 0;
        for (int i = 0; i < cells.length; i++) {
            check.due("wear(" + n + ", " + i + ") of " + page, x.wear(n, i), cells[i]);
            points += Integer.bitCount(cells[i]);
        }
        check.due("wear(" + n + ", NONE) of " + page, x.wear(n, -1), points);
    }

    private void under() {
        check.edge("UNDER, as bits (0 from a place behind the CELLS). BAD.");
        PrickedPages x = Check.with("aa", "a;aa;aaa");
        check.due("the last cell", x.under(0, 1), 1);
        check.due("behind the CELLS", x.under(0, 2), 0);
        check.due("behind all that a page holds", x.under(0, 24), 0);
        check.due("far behind", x.under(0, GREATEST), 0);
        check.due("far behind with three letters", x.under(2, GREATEST), 0);
        check.due("one less than that", x.under(2, GREATEST - 2), 0);
        check.due("more letters than CELLS", x.under(2, 0), 0);
        check.due("an empty page", Check.with("", "a").under(0, 0), 0);
        PrickedPages shorter = Check.with("aaa", "a;aa");
        shorter.wipe(0);
        shorter.type(0, 'a');
        check.due("behind a page that was longer", shorter.under(0, 1), 0);
        check.due("too few CELLS on a page that was longer", shorter.under(1, 0), 0);
        check.bad("under(word, 0)", word -> x.under(word, 0), -1, 3, 7, 8);
        check.due("under(0, -1)", x.under(0, -1), -2);
        check.due("under(0, the least int)", x.under(0, Check.LEAST), -2);
        check.due("no WORD far behind", x.under(3, GREATEST), -2);
    }

    private void clash() {
        check.edge("CLASH; NONE. BAD; NULL; NOT: some item is no cell.");
        PrickedPages x = Check.with("a", "");
        check.bad("clash(s)", x::clash, -1, 4);
        check.due("BAD is no FINDING", x.count(8), 0);
        check.due("LOST", x.clash(3), -11);
        check.due("NULL", x.count(8), 1);
        Check.row(x, 3, 0, 8);
        check.due("a clash", x.clash(3), 0);
        x.put(3, 0, 0, 0);
        check.due("none", x.clash(3), -1);
        x.put(3, 0, 0, 64);
        check.due("no cell", x.clash(3), -3);
        x.sheet(3, 0, 0);
        check.due("no items", x.clash(3), -1);
        check.due("NOT is no FINDING", x.count(8), 1);
    }

    private void hand() {
        check.edge("How often a HAND skipped a POINT: what it was. BAD.");
        PrickedPages x = new PrickedPages();
        check.due("at first", x.hand(0, 0, 99), 0);
        check.due("behind it", x.hand(0, 0, 0), 99);
        check.due("the last of all", x.hand(2, 5, 99), 0);
        check.bad("hand(hand, 0, 1)", hand -> x.hand(hand, 0, 1), -1, 3);
        check.bad("hand(0, point, 1)", point -> x.hand(0, point, 1), -1, 6);
        check.bad("hand(0, 0, v)", v -> x.hand(0, 0, v), -1, 100);
        check.due("unchanged", x.hand(0, 0, 0), 0);
    }

    private void whose() {
        check.edge("`int whose()`: WHOSE; NONE.");
        PrickedPages x = Check.with("aaaaaaaaaaaaaaaaaaaaaaaa", "");
        check.due("an empty page", new PrickedPages().whose(), -1);
        check.due("nothing is missing", x.whose(), -1);
        x.hand(2, 0, 99);
        for (int cell = 12; cell < 24; cell++) {
            x.slip(cell, 0, 0);
        }
        check.due("twelve POINTS are missing", x.whose(), 2);
        x.wipe(0);
        check.due("no CELLS", x.whose(), -1);
    }

    private void wear() {
        check.edge("WEAR: how many POINTS (cell = NONE), what is left of a cell. BAD.");
        PrickedPages x = Check.with("bb", "");
        check.due("in all", x.wear(1, -1), 3);
        check.due("of the first cell", x.wear(1, 0), 1);
        check.due("of the last cell", x.wear(1, 1), 3);
        check.bad("wear(0, cell)", cell -> x.wear(0, cell), -2, 2, 24);
        check.bad("wear(n, NONE)", n -> x.wear(n, -1), -1, 100);
        check.bad("wear(0, cell) of an empty page", cell -> new PrickedPages().wear(0, cell), -2, 0);
    }
}
