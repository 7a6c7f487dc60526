/** Promises 21 to 28: slippery, better, shorts, under, clash, hand, whose, wear. */
public final class SignsTest {
    private static final Check check = new Check("SignsTest");
    private static final int GREATEST = Integer.MAX_VALUE, LEAST = Integer.MIN_VALUE;

    public static void main(String[] args) {
        slippery();
        better();
        spreadSigns();
        shorts();
        under();
        clash();
        hand();
        whose();
        wear();
        check.end();
    }

    private static void slippery() {
        check.due("at first", new PrickedPages().slippery(), 15);
        check.due("all the same", Check.signed(3, 3, 3, 3, 3, 3, 3, 3, 3, 3).slippery(), 0);
        check.due("two of three points", Check.signed(7, 3, 3, 3, 3, 3, 3, 3, 3, 3).slippery(), 9);
        check.due("as many points, others", Check.signed(3, 5, 6, 9, 10, 12, 17, 18, 20, 24).slippery(), 0);
        check.due("two points less do not count", Check.signed(15, 3, 3, 3, 3, 3, 3, 3, 3, 3).slippery(), 0);
    }

    private static void better() {
        PrickedPages x = Check.signed(1, 3, 3, 3, 3, 3, 3, 3, 3, 3);
        // Next to 3 are 1, 2, 7, 11, 19 and 35; so 4 is the least with one point.
        check.due("the least with fewest points", x.better(0), 4);
        check.due("others have 1 and 3", x.better(1), 4);
        PrickedPages own = Check.signed(4, 63, 63, 63, 63, 63, 63, 63, 63, 63);
        check.due("its own may be the better", own.better(0), 1);
        PrickedPages few = Check.signed(4, 8, 16, 32, 3, 3, 3, 3, 3, 3);
        check.due("all with one point, but its own, are taken or next", few.better(0), 4);
        check.due("1 comes from 3, so three points are the fewest", few.better(4), 13);
        check.due("better(10)", x.better(10), -2);
        check.due("better(-1)", x.better(-1), -2);
        check.due("better(least)", x.better(LEAST), -2);
    }

    // NONE is never due: nine signs cannot lie next to all the others (each has only six next to it).
    private static void spreadSigns() {
        int[] spread = {1, 1, 14, 19, 22, 37, 40, 48, 59};
        PrickedPages x = new PrickedPages();
        for (int i = 0; i < spread.length; i++) {
            x.sign(i + 1, spread[i]);
        }
        int due = -1;
        for (int v = 1; v <= 63; v++) {
            boolean apart = true;
            for (int other : spread) {
                apart = apart && Integer.bitCount(v ^ other) > 1;
            }
            if (apart && (due == -1 || Integer.bitCount(v) < Integer.bitCount(due))) {
                due = v;
            }
        }
        check.due("better among nine spread signs", x.better(0), due);
    }

    private static void shorts() {
        PrickedPages x = Check.with("", "a;ab;abc;ab;abcdef");
        check.due("none", x.shorts(0, 0), 0);
        check.due("none saved", x.shorts(0, 1), 0);
        check.due("the longest", x.shorts(1, 0), 0b10000);
        check.due("it saves 5", x.shorts(1, 1), 5);
        check.due("of like ones the least", x.shorts(3, 0), 0b10110);
        check.due("all that save", x.shorts(8, 0), 0b11110);
        check.due("they save 9", x.shorts(8, 1), 9);
        check.due("FREE SIGNS", x.shorts(0, 2), 53);
        x.often(4, 0);
        check.due("one that never comes saves nothing", x.shorts(8, 0), 0b01110);
        x.often(3, 99);
        check.due("one that comes often", x.shorts(1, 0), 0b01000);
        check.due("it saves 99", x.shorts(1, 1), 99);
        x.sign(0, 3);
        check.due("two letters with one sign", x.shorts(0, 2), 54);
        check.due("shorts(9, 0)", x.shorts(9, 0), -2);
        check.due("shorts(-1, 0)", x.shorts(-1, 0), -2);
        check.due("shorts(0, 3)", x.shorts(0, 3), -2);
        check.due("shorts(0, -1)", x.shorts(0, -1), -2);
        check.due("no words", new PrickedPages().shorts(8, 0), 0);
        PrickedPages tie = Check.with("", "ab;cd;abc;ef");
        check.due("the one that saves more, then the least", tie.shorts(2, 0), 0b0101);
    }

    private static void under() {
        // b = a with point 1; f = b with c.
        PrickedPages x = Check.with("bf", "b;a;ab;bb;bc;ba;ac");
        check.due("b below b or a", x.under(0, 0), 0b11);
        check.due("a alone lacks a point", x.under(1, 0), 0b01);
        check.due("a word of two letters", x.under(4, 0), 0b001100);
        check.due("ab with bc alone", x.under(2, 0), 0b010000);
        check.due("points too many", x.under(0, 1), 0);
        check.due("too few cells", x.under(2, 1), 0);
        check.due("behind the cells", x.under(0, 2), 0);
        check.due("far behind the cells", x.under(2, GREATEST), 0);
        check.due("under(0, -1)", x.under(0, -1), -2);
        check.due("under(7, 0)", x.under(7, 0), -2);
        check.due("under(-1, 0)", x.under(-1, 0), -2);
        x.slip(0, 5, 1);
        check.due("a raised point is no word's", x.under(0, 0), 0);
    }

    private static void clash() {
        PrickedPages x = Check.with("abc", "");
        check.due("clash(4)", x.clash(4), -2);
        check.due("clash(-1)", x.clash(-1), -2);
        check.due("a LOST sheet", x.clash(0), -11);
        check.due("NULL", x.count(8), 1);
        Check.row(x, 0, 0, 0, 0, 0);
        check.due("nothing printed", x.clash(0), -1);
        Check.row(x, 0, 1, 0, 0, 8);
        check.due("8 is 1 from the front, behind cell 0", x.clash(0), 0);
        Check.row(x, 0, 2, 0, 0, 1);
        check.due("1 is 8 from the front", x.clash(0), -1);
        Check.row(x, 0, 0, 8, 16);
        check.due("the first of two", x.clash(0), 1);
        Check.row(x, 0, 0, 8);
        check.due("behind the last cell", x.clash(0), 2);
        Check.row(x, 0, 0, 0, 0, 0, 63);
        check.due("an item behind no cell", x.clash(0), -1);
        Check.row(x, 0, 0, 8, 0, 0, 64);
        check.due("an item behind no cell that is no cell", x.clash(0), -3);
        Check.row(x, 0, 1, -1);
        check.due("an item below 0", x.clash(0), -3);
        x.sheet(0, 0, 0);
        check.due("no items", x.clash(0), -1);
        x.wipe(0);
        Check.row(x, 0, 0, 63);
        check.due("no cells", x.clash(0), -1);
        x.put(0, 0, 0, 64);
        check.due("no cells, but an item that is none", x.clash(0), -3);
    }

    private static void hand() {
        PrickedPages x = new PrickedPages();
        check.due("hand(0, 0, 99)", x.hand(0, 0, 99), 0);
        check.due("hand(2, 5, 3)", x.hand(2, 5, 3), 0);
        check.due("hand(0, 0, 1)", x.hand(0, 0, 1), 99);
        check.due("hand(2, 5, 0)", x.hand(2, 5, 0), 3);
        check.due("hand(1, 0, 0)", x.hand(1, 0, 0), 0);
        check.due("hand(3, 0, 0)", x.hand(3, 0, 0), -2);
        check.due("hand(-1, 0, 0)", x.hand(-1, 0, 0), -2);
        check.due("hand(0, 6, 0)", x.hand(0, 6, 0), -2);
        check.due("hand(0, -1, 0)", x.hand(0, -1, 0), -2);
        check.due("hand(0, 0, 100)", x.hand(0, 0, 100), -2);
        check.due("hand(0, 0, -1)", x.hand(0, 0, -1), -2);
        check.due("nothing changed", x.hand(0, 0, 0), 1);
    }

    private static void whose() {
        PrickedPages x = Check.with("ab.", "");
        x.hand(1, 0, 5);
        x.hand(2, 1, 3);
        check.due("no point is missing", x.whose(), -1);
        x.slip(2, 0, 0);
        check.due("a space misses none", x.whose(), -1);
        x.slip(0, 5, 1);
        check.due("a raised point is not missing", x.whose(), -1);
        x.slip(1, 1, 0);
        check.due("hand 2 skips point 1", x.whose(), 2);
        x.slip(0, 0, 0);
        check.due("hand 1 skips point 0 more", x.whose(), 1);
        x.hand(2, 1, 5);
        check.due("of like ones the least", x.whose(), 1);
        x.hand(0, 1, 5);
        check.due("of three like ones the least", x.whose(), 0);
        PrickedPages none = Check.with("a", "");
        none.slip(0, 0, 0);
        check.due("no habits", none.whose(), 0);
        none.slip(0, 0, 1);
        check.due("the latest holds", none.whose(), -1);
        none.slip(1, 0, 0);
        check.due("a slip of no cell", none.whose(), -1);
    }

    private static void wear() {
        PrickedPages x = Check.with("b.g", "");
        int[][] due = {{6, 3, 0, 27}, {5, 1, 0, 27}, {4, 1, 0, 11}, {3, 0, 0, 11}, {2, 0, 0, 3},
            {1, 0, 0, 1}, {0, 0, 0, 0}, {0, 0, 0, 0}};
        for (int n = 0; n < due.length; n++) {
            for (int cell = -1; cell < 3; cell++) {
                check.due("wear(" + n + ", " + cell + ")", x.wear(n, cell), due[n][cell + 1]);
            }
        }
        check.due("it wears nothing really", x.cell(0), 3);
        check.due("wear(99, NONE)", x.wear(99, -1), 0);
        check.due("wear(100, NONE)", x.wear(100, -1), -2);
        check.due("wear(-1, NONE)", x.wear(-1, -1), -2);
        check.due("wear(0, 3)", x.wear(0, 3), -2);
        check.due("wear(0, -2)", x.wear(0, -2), -2);
        check.due("no cells", new PrickedPages().wear(99, -1), 0);
        check.due("no cell 0", new PrickedPages().wear(0, 0), -2);
        PrickedPages slipped = Check.with("a", "");
        slipped.slip(0, 5, 1);
        check.due("a raised point wears first", slipped.wear(1, 0), 1);
    }
}
