/** Boundary cases of signs: the terms of the third part, and promises 21 to 23. */
final class SignEdges {
    private final Check check;

    SignEdges(Check check) {
        this.check = check;
    }

    void all() {
        slipperyPairs();
        betterUnlikeOthers();
        betterNotOneMore();
        betterNotOneLess();
        betterFewest();
        oftenNumbers();
        freeSigns();
        shortAtMost();
        shortSaves();
        shortFree();
        shortNothing();
        shortLeast();
        slippery();
        better();
        shorts();
    }

    private void slipperyPairs() {
        check.edge("pairs of LETTERS (a of b) such that a's SIGN with one POINT less is b's SIGN: how many ordered pairs");
        dueSlippery(0, 1, 1, 1, 1, 1, 1, 1, 1, 1, 1);
        dueSlippery(25, 1, 3, 1, 3, 1, 3, 1, 3, 1, 3);
        dueSlippery(25, 3, 3, 3, 3, 3, 1, 1, 1, 1, 1);
        dueSlippery(6, 63, 62, 61, 59, 55, 47, 31, 1, 1, 1);
        dueSlippery(0, 7, 1, 2, 4, 1, 2, 4, 1, 2, 4);
        dueSlippery(0, 6, 9, 48, 6, 9, 48, 6, 9, 48, 6);
        dueSlippery(6, 6, 1, 9, 24, 36, 1, 1, 1, 1, 1);
        dueSlippery(9, 32, 48, 48, 48, 48, 48, 48, 48, 48, 48);
    }

    private void dueSlippery(int due, int... signs) {
        check.due("slippery() of " + signs[0] + ", " + signs[1] + " and so on", Check.signed(signs).slippery(), due);
    }

    private void betterUnlikeOthers() {
        check.edge("of all SIGNS (1 to 63) that no other LETTER has");
        dueBetter(0, 1, 4, 63, 63, 63, 63, 63, 63, 63, 63, 63);
        dueBetter(0, 1, 1, 63, 63, 63, 63, 63, 63, 63, 63, 63);
        dueBetter(0, 2, 1, 1, 1, 1, 1, 1, 1, 1, 1, 1);
        dueBetter(9, 2, 1, 1, 1, 1, 1, 1, 1, 1, 1, 63);
        dueBetter(3, 1, 63, 63, 63, 1, 63, 63, 63, 63, 63, 63);
    }

    private void betterNotOneMore() {
        check.edge("none of which with one POINT less is another LETTER's");
        dueBetter(0, 7, 63, 1, 2, 4, 8, 16, 32, 1, 2, 4);
        dueBetter(9, 7, 1, 2, 4, 8, 16, 32, 1, 2, 4, 7);
    }

    private void betterNotOneLess() {
        check.edge("and to which no other LETTER's comes by one POINT less");
        dueBetter(0, 4, 1, 3, 3, 3, 3, 3, 3, 3, 3, 3);
        dueBetter(0, 16, 1, 3, 12, 12, 12, 12, 12, 12, 12, 12);
        dueBetter(9, 32, 3, 12, 24, 3, 3, 3, 3, 3, 3, 1);
    }

    private void betterFewest() {
        check.edge("the one with the fewest POINTS, of like ones the least; NONE.");
        // 1 and 2 come from 9 and 18; 3 is apart, but 4 has a POINT less.
        dueBetter(0, 4, 9, 9, 18, 18, 18, 18, 18, 18, 18, 18);
        dueBetter(0, 5, 1, 3, 12, 48, 3, 12, 48, 3, 12, 48);
        dueBetter(5, 1, 63, 63, 63, 63, 63, 62, 63, 63, 63, 63);
    }

    private void dueBetter(int letter, int due, int... signs) {
        check.due("better(" + letter + ") of " + signs[0] + ", " + signs[1] + " and so on",
            Check.signed(signs).better(letter), due);
    }

    private void oftenNumbers() {
        check.edge("OFTEN of the numbers 0 to 7 (0 to 99 each; 1 at first)");
        PrickedPages x = new PrickedPages();
        for (int word = 0; word < 8; word++) {
            check.due("at first, " + word, x.often(word, 99), 1);
            check.due("99, " + word, x.often(word, 0), 99);
            check.due("0, " + word, x.often(word, word), 0);
        }
        check.bad("often(word, 1)", word -> x.often(word, 1), -1, 8);
        check.bad("often(7, v)", v -> x.often(7, v), -1, 100);
        Check.type(x, 1, "ab;ab;ab;ab;ab;ab;ab;ab");
        check.due("told ahead of the WORDS", x.shorts(1, 1), 7);
        x.wipe(1);
        Check.type(x, 1, "ab;abc");
        check.due("they stay with the numbers", x.shorts(8, 1), 2);
    }

    private void freeSigns() {
        check.edge("FREE SIGNS: 1 to 63 that no LETTER has.");
        check.due("at first", new PrickedPages().shorts(0, 2), 53);
        check.due("all alike", Check.signed(63, 63, 63, 63, 63, 63, 63, 63, 63, 63).shorts(0, 2), 62);
        check.due("two alike", Check.signed(3).shorts(8, 2), 54);
        check.due("the least and the greatest", Check.signed(1, 63, 1, 63, 1, 63, 1, 63, 1, 63).shorts(0, 2), 61);
    }

    private void shortAtMost() {
        check.edge("SHORT: so many (0 to 8) WORDS at most get a FREE SIGN each");
        PrickedPages x = Check.with("", "ab;ab;ab;ab;ab;ab;ab;ab");
        for (int many = 0; many <= 8; many++) {
            check.due("WORDS of " + many, x.shorts(many, 0), (1 << many) - 1);
            check.due("cells of " + many, x.shorts(many, 1), many);
        }
        check.bad("shorts(many, 0)", many -> x.shorts(many, 0), -1, 9);
        PrickedPages two = Check.with("", "ab;abc");
        check.due("more than there are WORDS", two.shorts(8, 0), 0b11);
        check.due("their cells", two.shorts(8, 1), 3);
        check.due("no WORDS", new PrickedPages().shorts(8, 1), 0);
    }

    private void shortSaves() {
        check.edge("those by which most cells are saved (OFTEN times letters less 1 each");
        PrickedPages x = Check.with("", "abcdef;ab;abc");
        check.due("the longest", x.shorts(1, 0), 0b001);
        check.due("5 cells", x.shorts(1, 1), 5);
        x.often(1, 6);
        check.due("the one that comes often", x.shorts(1, 0), 0b010);
        check.due("6 cells", x.shorts(1, 1), 6);
        check.due("two", x.shorts(2, 0), 0b011);
        check.due("11 cells", x.shorts(2, 1), 11);
        PrickedPages most = Check.with("", "aaaaaa;aaaaaa;aaaaaa;aaaaaa;aaaaaa;aaaaaa;aaaaaa;aaaaaa");
        for (int word = 0; word < 8; word++) {
            most.often(word, 99);
        }
        check.due("the most of one", most.shorts(1, 1), 495);
        check.due("the most of all", most.shorts(8, 1), 3960);
    }

    private void shortFree() {
        // Ten LETTERS leave 53 SIGNS free at least, and WORDS are 8 at most: there are always enough.
        check.edge("no more WORDS than FREE SIGNS");
        PrickedPages x = Check.with("", "ab;ab;ab;ab;ab;ab;ab;ab");
        check.due("53 FREE SIGNS", x.shorts(8, 2), 53);
        check.due("eight WORDS", x.shorts(8, 0), 255);
    }

    private void shortNothing() {
        check.edge("those that save nothing not");
        PrickedPages x = Check.with("", "a;ab;b;abc");
        check.due("one letter saves nothing", x.shorts(8, 0), 0b1010);
        x.often(0, 99);
        check.due("however often it comes", x.shorts(8, 0), 0b1010);
        x.often(1, 0);
        check.due("one that never comes saves nothing", x.shorts(8, 0), 0b1000);
        x.often(3, 0);
        check.due("none saves", x.shorts(8, 0), 0);
        check.due("no cells", x.shorts(8, 1), 0);
    }

    private void shortLeast() {
        check.edge("of like ones the least numbers: as bits; how many cells.");
        PrickedPages x = Check.with("", "ab;cd;abc;ef;ghi;ab;a;cdef");
        check.due("one", x.shorts(1, 0), 0b10000000);
        check.due("two", x.shorts(2, 0), 0b10000100);
        check.due("three", x.shorts(3, 0), 0b10010100);
        check.due("four", x.shorts(4, 0), 0b10010101);
        check.due("five", x.shorts(5, 0), 0b10010111);
        x.often(5, 3);
        check.due("three cells by OFTEN and by letters", x.shorts(1, 0), 0b00100000);
    }

    private void slippery() {
        check.edge("`int slippery()`: SLIPPERY.");
        PrickedPages x = Check.with("ab", "a");
        check.due("at first", x.slippery(), 15);
        x.slip(0, 1, 1);
        check.due("SLIPS change no SIGN", x.slippery(), 15);
        x.sign(0, 2);
        check.due("another SIGN", x.slippery(), 14);
    }

    private void better() {
        check.edge("`int better(int letter)`: BETTER; NONE. BAD.");
        PrickedPages x = new PrickedPages();
        check.holds("letter 0", x.better(0) > 0);
        check.holds("letter 9", x.better(9) > 0);
        check.bad("better(letter)", x::better, -1, 10);
    }

    private void shorts() {
        check.edge("SHORT: WORDS as bits (what = 0), how many cells are saved (1), how many FREE SIGNS there are (2). BAD.");
        PrickedPages x = Check.with("", "ab");
        check.due("WORDS", x.shorts(8, 0), 1);
        check.due("cells", x.shorts(8, 1), 1);
        check.due("FREE SIGNS", x.shorts(8, 2), 53);
        check.due("FREE SIGNS where none is asked for", x.shorts(0, 2), 53);
        for (int what = 0; what <= 2; what++) {
            int asked = what;
            check.bad("shorts(many, " + what + ")", many -> x.shorts(many, asked), -1, 9);
        }
        check.bad("shorts(8, what)", what -> x.shorts(8, what), -1, 3);
        check.bad("shorts(0, what) without WORDS", what -> new PrickedPages().shorts(0, what), -1, 3);
    }
}
