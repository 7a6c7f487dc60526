/** Promises 29 to 36: sheet, lose, put, get, copy, write, count, digest. */
public final class SheetsTest {
    private static final Check check = new Check("SheetsTest");
    private static final int GREATEST = Integer.MAX_VALUE, LEAST = Integer.MIN_VALUE;

    public static void main(String[] args) {
        sheet();
        lose();
        put();
        get();
        copy();
        copyWithin();
        write();
        count();
        digestOfNew();
        digestChanges();
        check.end();
    }

    private static void sheet() {
        PrickedPages x = new PrickedPages();
        check.due("sheet(0, 0, 0)", x.sheet(0, 0, 0), 0);
        check.due("sheet(3, 2, 48)", x.sheet(3, 2, 48), 48);
        check.due("sheet(4, 0, 0)", x.sheet(4, 0, 0), -2);
        check.due("sheet(-1, 0, 0)", x.sheet(-1, 0, 0), -2);
        check.due("sheet(0, 3, 0)", x.sheet(0, 3, 0), -2);
        check.due("sheet(0, -1, 0)", x.sheet(0, -1, 0), -2);
        check.due("sheet(0, 0, 49)", x.sheet(0, 0, 49), -2);
        check.due("sheet(0, 0, greatest)", x.sheet(0, 0, GREATEST), -2);
        check.due("BAD goes before SIZE", x.sheet(4, 0, -1), -2);
        check.due("no FINDING yet", x.count(8), 0);
        check.due("SIZE", x.sheet(3, 0, -1), -15);
        check.due("SIZE of the least", x.sheet(3, 0, LEAST), -15);
        check.due("the FINDING", x.count(8), 5);
        check.due("nothing changed", x.put(3, 2, 47, 9), 1);
        check.due("a new row", x.sheet(3, 2, 48), 48);
        check.due("0 at first", x.get(3, 2, 47), 0);
    }

    private static void lose() {
        PrickedPages x = new PrickedPages();
        check.due("lose(4)", x.lose(4), -2);
        check.due("lose(-1)", x.lose(-1), -2);
        check.due("a LOST one", x.lose(0), -11);
        x.sheet(0, 1, 7);
        check.due("lose(0)", x.lose(0), 7);
        check.due("lose(0) again", x.lose(0), -11);
        x.sheet(0, 1, 0);
        check.due("one without items is not LOST", x.lose(0), 0);
    }

    private static void put() {
        PrickedPages x = new PrickedPages();
        check.due("BAD goes before NULL", x.put(0, 3, 0, 0), -2);
        check.due("no FINDING", x.count(8), 0);
        check.due("NULL", x.put(0, 0, 0, 0), -11);
        x.sheet(0, 0, 2);
        x.sheet(1, 1, 2);
        x.sheet(2, 2, 2);
        check.due("put(4, 0, 0, 0)", x.put(4, 0, 0, 0), -2);
        check.due("put(-1, 0, 0, 0)", x.put(-1, 0, 0, 0), -2);
        check.due("put(0, -1, 0, 0)", x.put(0, -1, 0, 0), -2);
        check.due("CAST goes before INDEX", x.put(0, 1, 9, 0), -13);
        check.due("CAST", x.count(8), 3);
        check.due("INDEX", x.put(0, 0, 2, 0), -12);
        check.due("INDEX below 0", x.put(0, 0, -1, 0), -12);
        check.due("INDEX, told by count", x.count(8), 2);
        int[][] rows = {{0, 128, -128}, {0, 255, -1}, {0, 256, 0}, {0, -129, 127}, {1, 32768, -32768}, {1, 65535, -1},
            {1, 70000, 4464}, {1, -5, -5}, {2, GREATEST, GREATEST}, {2, LEAST, LEAST}, {2, 65536, 65536}};
        for (int[] row : rows) {
            check.due("put form " + row[0] + ", " + row[1], x.put(row[0], row[0], 1, row[1]), 1);
            check.due("get form " + row[0] + ", " + row[1], x.get(row[0], row[0], 1), row[2]);
        }
        check.due("the other item", x.get(0, 0, 0), 0);
    }

    private static void get() {
        PrickedPages x = new PrickedPages();
        dueRefused(x, "BAD sheet", x.get(4, 0, 0), 0);
        dueRefused(x, "BAD form", x.get(0, 3, 0), 0);
        dueRefused(x, "BAD below", x.get(-1, -1, -1), 0);
        dueRefused(x, "NULL", x.get(0, 0, 0), 1);
        x.sheet(0, 1, 3);
        dueRefused(x, "CAST", x.get(0, 0, 9), 3);
        dueRefused(x, "INDEX", x.get(0, 1, 3), 2);
        dueRefused(x, "BAD leaves the latest FINDING", x.get(0, 3, 0), 2);
        dueRefused(x, "INDEX below", x.get(0, 1, LEAST), 2);
        x.put(0, 1, 2, -7);
        check.due("get(0, 1, 2)", x.get(0, 1, 2), -7);
        check.due("the latest FINDING stays", x.count(8), 2);
    }

    private static void dueRefused(PrickedPages x, String what, int got, int finding) {
        check.due("get " + what, got, LEAST);
        check.due("FINDING of get " + what, x.count(8), finding);
    }

    private static void copy() {
        PrickedPages x = new PrickedPages();
        check.due("copy BAD s", x.copy(4, 0, 0, 0, 0), -2);
        check.due("copy BAD t", x.copy(0, 0, -1, 0, 0), -2);
        Check.row(x, 0, 1, 1, 2, 3, 4);
        check.due("NULL t", x.copy(0, 0, 1, 0, 0), -11);
        check.due("NULL s", x.copy(1, 0, 0, 0, 0), -11);
        x.sheet(1, 0, 4);
        check.due("STORE goes before INDEX", x.copy(0, -1, 1, 0, 0), -14);
        check.due("STORE", x.count(8), 4);
        x.sheet(1, 1, 3);
        check.due("copy", x.copy(0, 1, 1, 0, 3), 1);
        dueItems(x, 1, 2, 3, 4);
        int[][] refused = {{-1, 0, 1}, {0, -1, 1}, {0, 0, -1}, {0, 0, 4}, {2, 0, 3}, {0, 1, 3}, {5, 0, 0}, {0, 4, 0},
            {GREATEST, 0, 1}, {0, GREATEST, 1}, {1, 1, GREATEST}, {LEAST, 0, 0}, {0, 0, LEAST}};
        for (int[] r : refused) {
            String call = "copy(0, " + r[0] + ", 1, " + r[1] + ", " + r[2] + ")";
            check.due(call, x.copy(0, r[0], 1, r[1], r[2]), -12);
        }
        dueItems(x, 1, 2, 3, 4);
        check.due("INDEX", x.count(8), 2);
        check.due("none, from both ends", x.copy(0, 4, 1, 3, 0), 1);
    }

    private static void copyWithin() {
        PrickedPages x = new PrickedPages();
        Check.row(x, 0, 1, 1, 2, 3, 4);
        check.due("to the right", x.copy(0, 0, 0, 1, 3), 1);
        dueItems(x, 0, 1, 1, 2, 3);
        Check.row(x, 0, 1, 1, 2, 3, 4);
        check.due("to the left", x.copy(0, 1, 0, 0, 3), 1);
        dueItems(x, 0, 2, 3, 4, 4);
    }

    private static void dueItems(PrickedPages x, int s, int... items) {
        for (int i = 0; i < items.length; i++) {
            check.due("item " + i + " of sheet " + s, x.get(s, 1, i), items[i]);
        }
    }

    private static void write() {
        PrickedPages x = Check.with("abg", "");
        x.slip(2, 5, 1);
        check.due("write(4)", x.write(4), -2);
        check.due("write(-1)", x.write(-1), -2);
        check.due("NULL", x.write(0), -11);
        Check.row(x, 0, 1, 9, 9);
        check.due("two items", x.write(0), 2);
        dueItems(x, 0, 1, 3);
        Check.row(x, 0, 1, 9, 9, 9, 9);
        check.due("three cells", x.write(0), 3);
        dueItems(x, 0, 1, 3, 59, 9);
        x.wipe(0);
        check.due("no cells", x.write(0), 0);
        dueItems(x, 0, 1, 3, 59, 9);
        x.type(0, 'a');
        x.sign(0, 63);
        x.sheet(1, 0, 1);
        x.write(1);
        check.due("a byte holds a cell", x.get(1, 0, 0), 63);
    }

    private static void count() {
        PrickedPages x = Check.with("ab.c", "ab;c;");
        x.slip(1, 5, 1);
        x.slip(0, 1, 1);
        x.slip(9, 0, 1);
        int[] due = {4, 0, 4, 5, 3, 7, 25, 2, 0};
        for (int what = 0; what < due.length; what++) {
            check.due("count(" + what + ")", x.count(what), due[what]);
        }
        x.type(1, 'a');
        check.due("WORDS", x.count(1), 3);
        x.sign(0, 63);
        check.due("POINTS of SIGNS", x.count(6), 30);
        check.due("count(9)", x.count(9), -2);
        check.due("count(-1)", x.count(-1), -2);
        check.due("count(greatest)", x.count(GREATEST), -2);
    }

    private static void digestOfNew() {
        long[] told = {0, 0, 0, 0, 0, 0, 25, 0, -1, -1, -1, 0, 0, 0, 15, 0, 0, 0, 0, 0, 0, 0, 0, 0, 0, 0, 0, 53, -1, 0};
        PrickedPages x = new PrickedPages();
        for (int letter = 0; letter < 10; letter++) {
            told[15 + letter] = x.better(letter);
        }
        long h = 17;
        for (long v : told) {
            h = 31 * h + v;
        }
        check.due("digest of a new object", x.digest(), h);
    }

    private static void digestChanges() {
        PrickedPages x = Check.with("cb.a", "b;ca");
        long before = x.digest();
        check.due("it changes nothing", x.digest(), before);
        x.lose(0);
        check.due("a FINDING is not in it", x.digest(), before);
        x.slip(0, 4, 1);
        check.holds("a slip is in it", x.digest() != before);
        x.undo();
        check.due("as it was", x.digest(), before);
        x.often(0, 9);
        check.due("a word of one letter saves nothing", x.digest(), before);
        x.often(1, 9);
        check.holds("what is saved is in it", x.digest() != before);
    }
}
