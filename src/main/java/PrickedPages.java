import java.util.Arrays;

/**
 * A school for the blind that prints by hand: letters with signs of six points, a page, a list of words.
 * The promises that the methods keep are told by number in ../shared/DOC.md.
 */
public final class PrickedPages {
    public static final int NONE = -1, BAD = -2, NOT = -3, FULL = -4;

    private static final int NULL = 1, INDEX = 2, CAST = 3, STORE = 4, SIZE = 5;

    private static final int PAGE_BYTES = 24, WORD_BYTES = 60;
    private static final int LETTERS = 10, SPACE = 10, POINTS = 6, ALL_POINTS = 63, COLUMN = 7;
    private static final int MOST_WORDS = 8, LONGEST_WORD = 6;
    private static final int MOST_SLIPS = 12, HANDS = 3, SHEETS = 4, MOST_ITEMS = 48, FORMS = 3;
    private static final int MOST_COST = 9, MOST_TOLD_COST = 999, MOST_OFTEN = 99, MOST_READINGS = 99;
    private static final int COUNTS_IN_DIGEST = 8;

    // What get() answers for BAD, since an item may be -2 itself.
    private static final int LEAST_INT = -2147483648;

    // More than the WORDS that a line can hold, so that a cost and a number of WORDS go into one int.
    private static final int COST_STEP = 64;

    private static final int[] FIRST_SIGNS = {1, 3, 9, 25, 17, 11, 27, 19, 10, 26};

    private final Text page;
    private final WordList list;
    private final Slips slips;
    private final int[] signs;
    private final int[] cells;
    private int cellCount;
    private int missCost;
    private int extraCost;
    private final int[] comes;
    private final int[] habits;
    private final Sheet[] sheets;
    private int latestFinding;

    // Rows that calls work on, made once because what a run makes is counted.
    private final int[] worn;
    private final int[] bestFrom;

    public PrickedPages() {
        page = new Text(PAGE_BYTES);
        list = new WordList();
        slips = new Slips();
        signs = FIRST_SIGNS.clone();
        cells = new int[PAGE_BYTES];
        missCost = 1;
        extraCost = 2;
        comes = new int[MOST_WORDS];
        Arrays.fill(comes, 1);
        habits = new int[HANDS * POINTS];
        sheets = new Sheet[SHEETS];
        for (int s = 0; s < sheets.length; s++) {
            sheets[s] = new Sheet();
        }
        worn = new int[PAGE_BYTES];
        bestFrom = new int[PAGE_BYTES + 1];
    }

    // ---- letters, pages

    public int type(int text, int b) {
        Text told = textAt(text);
        if (told == null || !isWithin(b, 0, 255)) {
            return BAD;
        }
        if (!told.hasRoom()) {
            return FULL;
        }
        told.append(b);
        layTexts();
        return told.length;
    }

    public int wipe(int text) {
        Text told = textAt(text);
        if (told == null) {
            return BAD;
        }
        int had = told.length;
        told.length = 0;
        layTexts();
        return had;
    }

    public int fault(int text) {
        if (!isWithin(text, 0, 1)) {
            return BAD;
        }
        return text == 0 ? pageFault() : list.faultPlace;
    }

    public int sign(int letter, int v) {
        if (!isWithin(letter, 0, LETTERS - 1) || !isSign(v)) {
            return BAD;
        }
        int was = at(signs, letter);
        lay(signs, letter, v);
        layCells();
        return was;
    }

    public int read(int s) {
        Sheet sheet = sheetAt(s);
        if (sheet == null) {
            return BAD;
        }
        if (sheet.isLost()) {
            return find(NULL);
        }
        int done = 0;
        while (done < LETTERS && done < sheet.size && isSign(at(sheet.items, done))) {
            lay(signs, done, at(sheet.items, done));
            done++;
        }
        layCells();
        return done;
    }

    public int slip(int cell, int point, int is) {
        if (!isWithin(cell, 0, PAGE_BYTES - 1) || !isWithin(point, 0, POINTS - 1) || !isWithin(is, 0, 1)) {
            return BAD;
        }
        if (slips.many >= MOST_SLIPS) {
            return FULL;
        }
        slips.add(cell, point, is);
        layCells();
        return slips.many;
    }

    public int undo() {
        if (slips.many <= 0) {
            return NOT;
        }
        slips.many--;
        layCells();
        return slips.many;
    }

    public int set(int what, int v) {
        if (!isWithin(what, 0, 1) || !isWithin(v, 0, MOST_COST)) {
            return BAD;
        }
        int was = what == 0 ? missCost : extraCost;
        if (what == 0) {
            missCost = v;
        } else {
            extraCost = v;
        }
        return was;
    }

    public int often(int word, int v) {
        if (!isWithin(word, 0, MOST_WORDS - 1) || !isWithin(v, 0, MOST_OFTEN)) {
            return BAD;
        }
        int was = at(comes, word);
        lay(comes, word, v);
        return was;
    }

    // ---- what is read

    public int cell(int cell) {
        return isCell(cell) ? at(cells, cell) : BAD;
    }

    public int letter(int cell) {
        return isCell(cell) ? readingOf(at(cells, cell)) : BAD;
    }

    public int judged() {
        for (int i = 0; i < cellCount; i++) {
            if (readingOf(at(cells, i)) == NONE) {
                return i;
            }
        }
        return NONE;
    }

    public int wrong(int i) {
        return isCell(i) ? readingOf(swapColumns(at(cells, cellCount - 1 - i))) : BAD;
    }

    public int mirrored(int v) {
        return isWithin(v, 0, ALL_POINTS) ? swapColumns(v) : BAD;
    }

    public int both(int word) {
        if (word != NONE && !list.has(word)) {
            return BAD;
        }
        return word == NONE ? wordsBothWays() : wordFromBehind(word);
    }

    // ---- what was meant

    public int fits(int word, int from) {
        if (!list.has(word) || from < 0) {
            return BAD;
        }
        return costAt(word, from);
    }

    public int meant(int from, int what) {
        if (!isCell(from) || !isWithin(what, 0, 1)) {
            return BAD;
        }
        int word = cheapestAt(from);
        return word == NONE || what == 0 ? word : costAt(word, from);
    }

    public int within(int from, int most) {
        if (!isCell(from) || !isWithin(most, 0, MOST_TOLD_COST)) {
            return BAD;
        }
        int bits = 0;
        for (int w = 0; w < list.many; w++) {
            int cost = costAt(w, from);
            if (cost != NONE && cost <= most) {
                bits |= 1 << w;
            }
        }
        return bits;
    }

    public int line(int what) {
        if (!isWithin(what, 0, 1)) {
            return BAD;
        }
        int best = bestLine();
        return what == 0 ? best / COST_STEP : best % COST_STEP;
    }

    // ---- signs

    public int slippery() {
        int pairs = 0;
        for (int a = 0; a < LETTERS; a++) {
            for (int b = 0; b < LETTERS; b++) {
                if (isOnePointLess(at(signs, b), at(signs, a))) {
                    pairs++;
                }
            }
        }
        return pairs;
    }

    public int better(int letter) {
        if (!isWithin(letter, 0, LETTERS - 1)) {
            return BAD;
        }
        int best = NONE;
        for (int v = 1; v <= ALL_POINTS; v++) {
            boolean fewer = best == NONE || Integer.bitCount(v) < Integer.bitCount(best);
            if (fewer && isApartFromOthers(v, letter)) {
                best = v;
            }
        }
        return best;
    }

    public int shorts(int many, int what) {
        if (!isWithin(many, 0, MOST_WORDS) || !isWithin(what, 0, 2)) {
            return BAD;
        }
        if (what == 2) {
            return freeSigns();
        }
        int bits = shortened(many);
        return what == 0 ? bits : savedBy(bits);
    }

    // ---- under, behind

    public int under(int word, int from) {
        if (!list.has(word) || from < 0) {
            return BAD;
        }
        int bits = 0;
        for (int w = 0; w < list.many; w++) {
            if (lieTogether(word, w, from)) {
                bits |= 1 << w;
            }
        }
        return bits;
    }

    public int clash(int s) {
        Sheet sheet = sheetAt(s);
        if (sheet == null) {
            return BAD;
        }
        if (sheet.isLost()) {
            return find(NULL);
        }
        for (int i = 0; i < sheet.size; i++) {
            if (!isWithin(at(sheet.items, i), 0, ALL_POINTS)) {
                return NOT;
            }
        }
        return firstClash(sheet);
    }

    public int hand(int hand, int point, int v) {
        if (!isWithin(hand, 0, HANDS - 1) || !isWithin(point, 0, POINTS - 1) || !isWithin(v, 0, MOST_OFTEN)) {
            return BAD;
        }
        int place = hand * POINTS + point;
        int was = at(habits, place);
        lay(habits, place, v);
        return was;
    }

    public int whose() {
        boolean missing = false;
        for (int i = 0; i < cellCount; i++) {
            missing = missing || skippedAt(i) != 0;
        }
        if (!missing) {
            return NONE;
        }
        int best = 0;
        for (int h = 1; h < HANDS; h++) {
            if (skippedBy(h) > skippedBy(best)) {
                best = h;
            }
        }
        return best;
    }

    public int wear(int n, int cell) {
        if (!isWithin(n, 0, MOST_READINGS) || (cell != NONE && !isCell(cell))) {
            return BAD;
        }
        wearDown(n);
        return cell == NONE ? pointsOf(worn, cellCount) : at(worn, cell);
    }

    // ---- sheets

    public int sheet(int s, int form, int n) {
        Sheet sheet = sheetAt(s);
        if (sheet == null || !isForm(form) || n > MOST_ITEMS) {
            return BAD;
        }
        if (n < 0) {
            return find(SIZE);
        }
        sheet.renew(form, n);
        return n;
    }

    public int lose(int s) {
        Sheet sheet = sheetAt(s);
        if (sheet == null) {
            return BAD;
        }
        if (sheet.isLost()) {
            return find(NULL);
        }
        int had = sheet.size;
        sheet.renew(NONE, 0);
        return had;
    }

    public int put(int s, int form, int i, int v) {
        Sheet sheet = sheetAt(s);
        if (sheet == null || !isForm(form)) {
            return BAD;
        }
        int finding = itemFinding(sheet, form, i);
        if (finding != 0) {
            return find(finding);
        }
        sheet.store(i, v);
        return 1;
    }

    public int get(int s, int form, int i) {
        Sheet sheet = sheetAt(s);
        if (sheet == null || !isForm(form)) {
            return LEAST_INT;
        }
        int finding = itemFinding(sheet, form, i);
        if (finding != 0) {
            latestFinding = finding;
            return LEAST_INT;
        }
        return at(sheet.items, i);
    }

    public int copy(int s, int i, int t, int j, int n) {
        Sheet from = sheetAt(s);
        Sheet to = sheetAt(t);
        if (from == null || to == null) {
            return BAD;
        }
        if (from.isLost() || to.isLost()) {
            return find(NULL);
        }
        if (from.form != to.form) {
            return find(STORE);
        }
        if (!from.hasStretch(i, n) || !to.hasStretch(j, n)) {
            return find(INDEX);
        }
        System.arraycopy(from.items, i, to.items, j, n);
        return 1;
    }

    public int write(int s) {
        Sheet sheet = sheetAt(s);
        if (sheet == null) {
            return BAD;
        }
        if (sheet.isLost()) {
            return find(NULL);
        }
        int many = Math.min(sheet.size, cellCount);
        for (int i = 0; i < many; i++) {
            sheet.store(i, at(cells, i));
        }
        return many;
    }

    public int count(int what) {
        switch (what) {
            case 0: return cellCount;
            case 1: return list.many;
            case 2: return page.length;
            case 3: return list.text.length;
            case 4: return slips.many;
            case 5: return pointsOf(cells, cellCount);
            case 6: return pointsOf(signs, LETTERS);
            case 7: return cellsOfLetters();
            case 8: return latestFinding;
            default: return BAD;
        }
    }

    public long digest() {
        long h = 17;
        for (int what = 0; what < COUNTS_IN_DIGEST; what++) {
            h = mix(h, count(what));
        }
        h = mix(mix(h, fault(0)), fault(1));
        h = mix(h, judged());
        h = mixCells(h);
        h = mixWords(h);
        h = mix(h, both(NONE));
        h = mix(mix(h, line(0)), line(1));
        h = mix(h, slippery());
        for (int letter = 0; letter < LETTERS; letter++) {
            h = mix(h, better(letter));
        }
        for (int what = 0; what <= 2; what++) {
            h = mix(h, shorts(3, what));
        }
        return mix(mix(h, whose()), wear(20, NONE));
    }

    private long mixCells(long before) {
        long h = before;
        for (int i = 0; i < cellCount; i++) {
            h = mix(h, cell(i));
            h = mix(h, letter(i));
            h = mix(h, wrong(i));
            h = mix(mix(h, meant(i, 0)), meant(i, 1));
            h = mix(h, within(i, 5));
        }
        return h;
    }

    private long mixWords(long before) {
        long h = before;
        for (int w = 0; w < list.many; w++) {
            h = mix(h, both(w));
            h = mix(h, fits(w, 0));
            h = mix(h, under(w, 0));
        }
        return h;
    }

    private static long mix(long h, long v) {
        return 31 * h + v;
    }

    // ---- numbers and rows

    // Every row is looked at through these two, so that no index goes unseen.
    private static int at(int[] row, int i) {
        return row != null && i >= 0 && i < row.length ? row[i] : 0;
    }

    private static void lay(int[] row, int i, int v) {
        if (row != null && i >= 0 && i < row.length) {
            row[i] = v;
        }
    }

    private static boolean isWithin(int v, int least, int most) {
        return v >= least && v <= most;
    }

    private static boolean isSign(int v) {
        return isWithin(v, 1, ALL_POINTS);
    }

    private static boolean isForm(int form) {
        return isWithin(form, 0, FORMS - 1);
    }

    private boolean isCell(int place) {
        return isWithin(place, 0, cellCount - 1);
    }

    private static int pointsOf(int[] row, int many) {
        int points = 0;
        for (int i = 0; i < many; i++) {
            points += Integer.bitCount(at(row, i));
        }
        return points;
    }

    // ---- texts and cells

    private Text textAt(int text) {
        if (text == 0) {
            return page;
        }
        return text == 1 ? list.text : null;
    }

    private int pageFault() {
        for (int i = 0; i < page.length; i++) {
            int b = at(page.bytes, i);
            if (b != '.' && !isLetter(b)) {
                return i;
            }
        }
        return NONE;
    }

    private static boolean isLetter(int b) {
        return isWithin(b, 'a', 'j');
    }

    private void layTexts() {
        list.split();
        layCells();
    }

    // CELLS and WORDS are laid out at each change, so that what only asks does no work twice.
    private void layCells() {
        cellCount = pageFault() == NONE ? page.length : 0;
        for (int i = 0; i < cellCount; i++) {
            lay(cells, i, slips.pointsAt(i, printedAt(i)));
        }
    }

    /** The POINTS that a cell of THE PAGE has without SLIPS. */
    private int printedAt(int place) {
        int b = at(page.bytes, place);
        return isLetter(b) ? at(signs, b - 'a') : 0;
    }

    private int readingOf(int points) {
        if (points == 0) {
            return SPACE;
        }
        for (int letter = 0; letter < LETTERS; letter++) {
            if (at(signs, letter) == points) {
                return letter;
            }
        }
        return NONE;
    }

    private static int swapColumns(int points) {
        return (points & COLUMN) << 3 | points >> 3 & COLUMN;
    }

    private int cellsOfLetters() {
        int many = 0;
        for (int i = 0; i < cellCount; i++) {
            if (isWithin(readingOf(at(cells, i)), 0, LETTERS - 1)) {
                many++;
            }
        }
        return many;
    }

    // ---- words

    private int signOf(int word, int i) {
        return at(signs, list.letterOf(word, i));
    }

    private int wordsBothWays() {
        int bits = 0;
        for (int w = 0; w < list.many; w++) {
            if (wordFromBehind(w) != NONE) {
                bits |= 1 << w;
            }
        }
        return bits;
    }

    private int wordFromBehind(int word) {
        for (int w = 0; w < list.many; w++) {
            if (isReadFromBehindAs(word, w)) {
                return w;
            }
        }
        return NONE;
    }

    private boolean isReadFromBehindAs(int word, int other) {
        int many = list.lettersOf(word);
        if (list.lettersOf(other) != many) {
            return false;
        }
        for (int i = 0; i < many; i++) {
            if (readingOf(swapColumns(signOf(word, many - 1 - i))) != list.letterOf(other, i)) {
                return false;
            }
        }
        return true;
    }

    private boolean hasCellsFor(int word, int from) {
        // Not from + letters: a place may be told that is as great as an int can be.
        return from >= 0 && from <= cellCount - list.lettersOf(word);
    }

    private int costAt(int word, int from) {
        if (!hasCellsFor(word, from)) {
            return NONE;
        }
        int cost = 0;
        for (int i = 0; i < list.lettersOf(word); i++) {
            int due = signOf(word, i);
            int there = at(cells, from + i);
            cost += missCost * Integer.bitCount(due & ~there) + extraCost * Integer.bitCount(there & ~due);
        }
        return cost;
    }

    private int cheapestAt(int from) {
        int best = NONE;
        int bestCost = 0;
        for (int w = 0; w < list.many; w++) {
            int cost = costAt(w, from);
            if (cost == NONE) {
                continue;
            }
            boolean longer = cost == bestCost && list.lettersOf(w) > list.lettersOf(best);
            if (best == NONE || cost < bestCost || longer) {
                best = w;
                bestCost = cost;
            }
        }
        return best;
    }

    // From the last cell on, each place is asked for the best way when a WORD may begin there.
    private int bestLine() {
        lay(bestFrom, cellCount, 0);
        for (int from = cellCount - 1; from >= 0; from--) {
            int best = bestBehindWord(from);
            for (int w = 0; w < list.many; w++) {
                int cost = costAt(w, from);
                if (cost != NONE) {
                    int all = cost * COST_STEP + 1 + bestBehindWord(from + list.lettersOf(w));
                    best = Math.min(best, all);
                }
            }
            lay(bestFrom, from, best);
        }
        return at(bestFrom, 0);
    }

    private int bestBehindWord(int place) {
        if (place >= cellCount) {
            return 0;
        }
        int spaceCost = extraCost * Integer.bitCount(at(cells, place));
        return spaceCost * COST_STEP + at(bestFrom, place + 1);
    }

    // ---- signs

    private static boolean isOnePointLess(int less, int v) {
        return (less & ~v) == 0 && Integer.bitCount(less) == Integer.bitCount(v) - 1;
    }

    private boolean isApartFromOthers(int v, int letter) {
        for (int other = 0; other < LETTERS; other++) {
            int has = at(signs, other);
            if (other != letter && (has == v || isOnePointLess(has, v) || isOnePointLess(v, has))) {
                return false;
            }
        }
        return true;
    }

    private int freeSigns() {
        int many = 0;
        for (int v = 1; v <= ALL_POINTS; v++) {
            if (readingOf(v) == NONE) {
                many++;
            }
        }
        return many;
    }

    private int shortened(int many) {
        int most = Math.min(many, freeSigns());
        int bits = 0;
        for (int k = 0; k < most; k++) {
            int word = mostSavingBut(bits);
            if (word == NONE) {
                break;
            }
            bits |= 1 << word;
        }
        return bits;
    }

    private int mostSavingBut(int taken) {
        int best = NONE;
        int bestSaved = 0;
        for (int w = 0; w < list.many; w++) {
            int saved = savedBy(1 << w);
            if ((taken & 1 << w) == 0 && saved > bestSaved) {
                best = w;
                bestSaved = saved;
            }
        }
        return best;
    }

    private int savedBy(int bits) {
        int saved = 0;
        for (int w = 0; w < list.many; w++) {
            if ((bits & 1 << w) != 0) {
                saved += at(comes, w) * (list.lettersOf(w) - 1);
            }
        }
        return saved;
    }

    // ---- under, behind

    private boolean lieTogether(int word, int other, int from) {
        int many = list.lettersOf(word);
        if (list.lettersOf(other) != many || !hasCellsFor(word, from)) {
            return false;
        }
        for (int i = 0; i < many; i++) {
            if ((signOf(word, i) | signOf(other, i)) != at(cells, from + i)) {
                return false;
            }
        }
        return true;
    }

    private int firstClash(Sheet sheet) {
        for (int i = 0; i < cellCount; i++) {
            int behind = cellCount - 1 - i;
            boolean printed = sheet != null && behind < sheet.size;
            if (printed && (at(cells, i) & swapColumns(at(sheet.items, behind))) != 0) {
                return i;
            }
        }
        return NONE;
    }

    private int skippedAt(int place) {
        return printedAt(place) & ~at(cells, place);
    }

    private int skippedBy(int hand) {
        int sum = 0;
        for (int i = 0; i < cellCount; i++) {
            int skipped = skippedAt(i);
            for (int point = 0; point < POINTS; point++) {
                if ((skipped & 1 << point) != 0) {
                    sum += at(habits, hand * POINTS + point);
                }
            }
        }
        return sum;
    }

    private void wearDown(int readings) {
        for (int i = 0; i < cellCount; i++) {
            lay(worn, i, at(cells, i));
        }
        int next = 0;
        for (int k = 0; k < readings; k++) {
            int place = nextRaised(next);
            if (place == NONE) {
                return;
            }
            lay(worn, place, withoutGreatestPoint(at(worn, place)));
            next = place + 1;
        }
    }

    private int nextRaised(int from) {
        for (int k = 0; k < cellCount; k++) {
            // Behind the last cell it begins anew.
            int place = from + k < cellCount ? from + k : from + k - cellCount;
            if (at(worn, place) != 0) {
                return place;
            }
        }
        return NONE;
    }

    private static int withoutGreatestPoint(int points) {
        for (int point = POINTS - 1; point >= 0; point--) {
            if ((points & 1 << point) != 0) {
                return points & ~(1 << point);
            }
        }
        return 0;
    }

    // ---- sheets

    private Sheet sheetAt(int s) {
        return s >= 0 && s < sheets.length ? sheets[s] : null;
    }

    private int find(int finding) {
        latestFinding = finding;
        return -10 - finding;
    }

    private static int itemFinding(Sheet sheet, int form, int i) {
        if (sheet == null || sheet.isLost()) {
            return NULL;
        }
        if (sheet.form != form) {
            return CAST;
        }
        return isWithin(i, 0, sheet.size - 1) ? 0 : INDEX;
    }

    /** Bytes as they were typed, with a fault or without. */
    private static final class Text {
        private final int[] bytes;
        private int length;

        private Text(int room) {
            bytes = new int[Math.max(room, 0)];
        }

        private boolean hasRoom() {
            return length < bytes.length;
        }

        private void append(int b) {
            if (hasRoom()) {
                lay(bytes, length, b);
                length++;
            }
        }
    }

    /** The WORDS that the text of words tells; none if it has a fault. */
    private static final class WordList {
        private final Text text = new Text(WORD_BYTES);
        private final int[] letters = new int[MOST_WORDS * LONGEST_WORD];
        private final int[] lengths = new int[MOST_WORDS];
        private int many;
        private int faultPlace = NONE;

        private boolean has(int word) {
            return isWithin(word, 0, many - 1);
        }

        // These two test their index themselves: calls are to stay few deep.
        private int lettersOf(int word) {
            return word >= 0 && word < many && word < lengths.length ? lengths[word] : 0;
        }

        private int letterOf(int word, int i) {
            int place = word * LONGEST_WORD + i;
            return place >= 0 && place < letters.length ? letters[place] : 0;
        }

        private void split() {
            many = 0;
            faultPlace = firstFault();
            if (faultPlace != NONE || text.length == 0) {
                return;
            }
            Arrays.fill(lengths, 0);
            int word = 0;
            for (int i = 0; i < text.length; i++) {
                int b = at(text.bytes, i);
                if (b == ';') {
                    word++;
                } else {
                    int before = at(lengths, word);
                    lay(letters, word * LONGEST_WORD + before, b - 'a');
                    lay(lengths, word, before + 1);
                }
            }
            many = word + 1;
        }

        private int firstFault() {
            int word = 0;
            int letters = 0;
            for (int i = 0; i < text.length; i++) {
                int b = at(text.bytes, i);
                boolean goesOn = isLetter(b) ? letters < LONGEST_WORD : b == ';' && letters > 0;
                if (word >= MOST_WORDS || !goesOn) {
                    return i;
                }
                letters = b == ';' ? 0 : letters + 1;
                word = b == ';' ? word + 1 : word;
            }
            boolean open = text.length > 0 && letters == 0;
            return open ? text.length : NONE;
        }
    }

    /** What hand and frost did, the earliest first: a later one goes over an earlier one. */
    private static final class Slips {
        private final int[] places = new int[MOST_SLIPS];
        private final int[] points = new int[MOST_SLIPS];
        private final int[] raised = new int[MOST_SLIPS];
        private int many;

        private void add(int place, int point, int is) {
            if (many < MOST_SLIPS) {
                lay(places, many, place);
                lay(points, many, point);
                lay(raised, many, is);
                many++;
            }
        }

        private int pointsAt(int place, int printed) {
            int there = printed;
            for (int k = 0; k < many; k++) {
                if (at(places, k) == place) {
                    int bit = 1 << at(points, k);
                    there = at(raised, k) == 1 ? there | bit : there & ~bit;
                }
            }
            return there;
        }
    }

    /** A row of a FORM, or LOST (its FORM is NONE); the row is made once and used for each new SHEET. */
    private static final class Sheet {
        private final int[] items = new int[MOST_ITEMS];
        private int form = NONE;
        private int size;

        private boolean isLost() {
            return form == NONE;
        }

        private void renew(int newForm, int n) {
            Arrays.fill(items, 0);
            form = newForm;
            size = n;
        }

        private boolean hasStretch(int from, int n) {
            return from >= 0 && n >= 0 && n <= size - from;
        }

        private void store(int i, int v) {
            int kept = v;
            if (form == 0) {
                kept = (byte) v;
            } else if (form == 1) {
                kept = (short) v;
            }
            lay(items, i, kept);
        }
    }
}
