import java.util.ArrayList;
import java.util.Comparator;
import java.util.List;

/**
 * The document a second time, in the plainest words of the Java library: nothing is kept but what was told,
 * and each answer is found by looking at all that could be. ModelTest sets it beside PrickedPages.
 */
final class PlainModel {
    private final StringBuilder[] texts = {new StringBuilder(), new StringBuilder()};
    private final int[] signs = {1, 3, 9, 25, 17, 11, 27, 19, 10, 26};
    private final List<int[]> slips = new ArrayList<>();
    private final int[] costs = {1, 2};
    private final int[] often = {1, 1, 1, 1, 1, 1, 1, 1};
    private final int[][] hands = new int[3][6];
    private final int[] forms = {-1, -1, -1, -1};
    private final int[][] rows = new int[4][];
    private int finding;

    private static boolean out(int v, int least, int most) {
        return v < least || v > most;
    }

    private int found(int number) {
        finding = number;
        return -10 - number;
    }

    int type(int text, int b) {
        if (out(text, 0, 1) || out(b, 0, 255)) return -2;
        if (texts[text].length() == (text == 0 ? 24 : 60)) return -4;
        return texts[text].append((char) b).length();
    }

    int wipe(int text) {
        if (out(text, 0, 1)) return -2;
        int had = texts[text].length();
        texts[text].setLength(0);
        return had;
    }

    int fault(int text) {
        if (out(text, 0, 1)) return -2;
        String all = texts[text].toString();
        if (all.isEmpty()) return -1;
        if (text == 0) return all.matches("[a-j.]*") ? -1 : all.replaceFirst("[^a-j.].*(?s)", "").length();
        String words = "[a-j]{1,6}(;[a-j]{1,6}){0,7}";
        if (all.matches(words)) return -1;
        // The longest beginning that could still become WORDS ends where the fault is.
        for (int n = all.length(); n > 0; n--) {
            String begun = all.substring(0, n);
            boolean open = begun.endsWith(";");
            if (open ? begun.substring(0, n - 1).matches(words) : begun.matches(words)) return n;
        }
        return 0;
    }

    int sign(int letter, int v) {
        if (out(letter, 0, 9) || out(v, 1, 63)) return -2;
        int was = signs[letter];
        signs[letter] = v;
        return was;
    }

    int read(int s) {
        if (out(s, 0, 3)) return -2;
        if (rows[s] == null) return found(1);
        int n = 0;
        for (int item : rows[s]) {
            if (n == 10 || out(item, 1, 63)) break;
            signs[n++] = item;
        }
        return n;
    }

    int slip(int cell, int point, int is) {
        if (out(cell, 0, 23) || out(point, 0, 5) || out(is, 0, 1)) return -2;
        if (slips.size() == 12) return -4;
        slips.add(new int[] {cell, point, is});
        return slips.size();
    }

    int undo() {
        if (slips.isEmpty()) return -3;
        slips.remove(slips.size() - 1);
        return slips.size();
    }

    int set(int what, int v) {
        if (out(what, 0, 1) || out(v, 0, 9)) return -2;
        int was = costs[what];
        costs[what] = v;
        return was;
    }

    int often(int word, int v) {
        if (out(word, 0, 7) || out(v, 0, 99)) return -2;
        int was = often[word];
        often[word] = v;
        return was;
    }

    private String page() {
        return fault(0) == -1 ? texts[0].toString() : "";
    }

    private String[] words() {
        return fault(1) == -1 && texts[1].length() > 0 ? texts[1].toString().split(";") : new String[0];
    }

    private boolean[] points(int sign) {
        boolean[] points = new boolean[6];
        for (int p = 0; p < 6; p++) points[p] = (sign >> p) % 2 == 1;
        return points;
    }

    private int bits(boolean[] points) {
        int bits = 0;
        for (int p = 0; p < points.length; p++) if (points[p]) bits += 1 << p;
        return bits;
    }

    private int signOf(char letter) {
        return letter == '.' ? 0 : signs[letter - 'a'];
    }

    private int cellAt(int i) {
        boolean[] points = points(signOf(page().charAt(i)));
        for (int[] slip : slips) if (slip[0] == i) points[slip[1]] = slip[2] == 1;
        return bits(points);
    }

    private int readAs(int cell) {
        if (cell == 0) return 10;
        for (int l = 0; l < 10; l++) if (signs[l] == cell) return l;
        return -1;
    }

    private int turned(int cell) {
        boolean[] p = points(cell);
        return bits(new boolean[] {p[3], p[4], p[5], p[0], p[1], p[2]});
    }

    private int cells() {
        return page().length();
    }

    int cell(int i) {
        return out(i, 0, cells() - 1) ? -2 : cellAt(i);
    }

    int letter(int i) {
        return out(i, 0, cells() - 1) ? -2 : readAs(cellAt(i));
    }

    int judged() {
        for (int i = 0; i < cells(); i++) if (letter(i) == -1) return i;
        return -1;
    }

    int wrong(int i) {
        return out(i, 0, cells() - 1) ? -2 : readAs(turned(cellAt(cells() - 1 - i)));
    }

    int mirrored(int v) {
        return out(v, 0, 63) ? -2 : turned(v);
    }

    int both(int word) {
        String[] words = words();
        if (word == -1) {
            int bits = 0;
            for (int w = 0; w < words.length; w++) if (both(w) >= 0) bits += 1 << w;
            return bits;
        }
        if (out(word, 0, words.length - 1)) return -2;
        StringBuilder read = new StringBuilder();
        for (char c : new StringBuilder(words[word]).reverse().toString().toCharArray()) {
            int as = readAs(turned(signOf(c)));
            read.append(as == -1 ? '?' : (char) ('a' + as));
        }
        return List.of(words).indexOf(read.toString());
    }

    private int cost(String word, int from) {
        if (from >= cells() || word.length() > cells() - from) return -1;
        int cost = 0;
        for (int i = 0; i < word.length(); i++) {
            boolean[] due = points(signOf(word.charAt(i)));
            boolean[] there = points(cellAt(from + i));
            for (int p = 0; p < 6; p++) {
                if (due[p] && !there[p]) cost += costs[0];
                if (there[p] && !due[p]) cost += costs[1];
            }
        }
        return cost;
    }

    int fits(int word, int from) {
        return out(word, 0, words().length - 1) || from < 0 ? -2 : cost(words()[word], from);
    }

    int meant(int from, int what) {
        if (out(from, 0, cells() - 1) || out(what, 0, 1)) return -2;
        String[] words = words();
        List<int[]> all = new ArrayList<>();
        for (int w = 0; w < words.length; w++) {
            if (cost(words[w], from) >= 0) all.add(new int[] {w, cost(words[w], from), words[w].length()});
        }
        Comparator<int[]> order = Comparator.<int[]>comparingInt(a -> a[1]).thenComparingInt(a -> -a[2])
            .thenComparingInt(a -> a[0]);
        return all.stream().min(order).map(a -> a[what]).orElse(-1);
    }

    int within(int from, int most) {
        if (out(from, 0, cells() - 1) || out(most, 0, 999)) return -2;
        int bits = 0;
        for (int w = 0; w < words().length; w++) {
            if (!out(cost(words()[w], from), 0, most)) bits += 1 << w;
        }
        return bits;
    }

    /** Forward: [i][0] behind a space or at the beginning, [i][1] behind a WORD. */
    int line(int what) {
        if (out(what, 0, 1)) return -2;
        int n = cells();
        int[][][] best = new int[n + 1][2][];
        best[0][0] = new int[] {0, 0};
        for (int i = 0; i < n; i++) {
            for (int behind = 0; behind < 2; behind++) {
                if (best[i][behind] == null) continue;
                int[] now = best[i][behind];
                offer(best, i + 1, 0, now[0] + costs[1] * Integer.bitCount(cellAt(i)), now[1]);
                for (String word : words()) {
                    int cost = cost(word, i);
                    if (behind == 0 && cost >= 0) offer(best, i + word.length(), 1, now[0] + cost, now[1] + 1);
                }
            }
        }
        int[] last = best[n][0];
        int[] other = best[n][1];
        return last == null || other != null && isBetter(other, last) ? other[what] : last[what];
    }

    private static boolean isBetter(int[] a, int[] b) {
        return a[0] < b[0] || a[0] == b[0] && a[1] < b[1];
    }

    private static void offer(int[][][] best, int place, int behind, int cost, int many) {
        int[] told = {cost, many};
        if (best[place][behind] == null || isBetter(told, best[place][behind])) best[place][behind] = told;
    }

    private List<Integer> oneLess(int sign) {
        List<Integer> all = new ArrayList<>();
        for (int p = 1; p < 64; p *= 2) if ((sign & p) != 0) all.add(sign - p);
        return all;
    }

    int slippery() {
        int pairs = 0;
        for (int a = 0; a < 10; a++) for (int b = 0; b < 10; b++) if (oneLess(signs[a]).contains(signs[b])) pairs++;
        return pairs;
    }

    int better(int letter) {
        if (out(letter, 0, 9)) return -2;
        List<Integer> others = new ArrayList<>();
        for (int l = 0; l < 10; l++) if (l != letter) others.add(signs[l]);
        List<Integer> left = new ArrayList<>();
        for (int v = 1; v < 64; v++) {
            boolean good = !others.contains(v);
            for (int less : oneLess(v)) good &= !others.contains(less);
            for (int other : others) good &= !oneLess(other).contains(v);
            if (good) left.add(v);
        }
        return left.stream().min(Comparator.<Integer>comparingInt(Integer::bitCount).thenComparingInt(v -> v)).orElse(-1);
    }

    int shorts(int many, int what) {
        if (out(many, 0, 8) || out(what, 0, 2)) return -2;
        int free = 0;
        for (int v = 1; v < 64; v++) if (readAs(v) == -1) free++;
        if (what == 2) return free;
        String[] words = words();
        int best = 0;
        int bestSaved = 0;
        for (int bits = 1; bits < 1 << words.length; bits++) {
            int saved = 0;
            boolean good = Integer.bitCount(bits) <= Math.min(many, free);
            for (int w = 0; w < words.length; w++) {
                int one = often[w] * (words[w].length() - 1);
                if ((bits >> w) % 2 == 1) saved += one;
                if ((bits >> w) % 2 == 1 && one == 0) good = false;
            }
            // Of like ones the least numbers: the one whose first other WORD is the less.
            int other = bits ^ best;
            boolean less = saved == bestSaved && (bits & other & -other) != 0;
            if (good && (saved > bestSaved || less)) {
                best = bits;
                bestSaved = saved;
            }
        }
        return what == 0 ? best : bestSaved;
    }

    int under(int word, int from) {
        String[] words = words();
        if (out(word, 0, words.length - 1) || from < 0) return -2;
        int bits = 0;
        for (int w = 0; w < words.length; w++) {
            boolean good = words[w].length() == words[word].length() && cost(words[w], from) >= 0;
            for (int i = 0; good && i < words[w].length(); i++) {
                boolean[] one = points(signOf(words[word].charAt(i)));
                boolean[] two = points(signOf(words[w].charAt(i)));
                boolean[] there = points(cellAt(from + i));
                for (int p = 0; p < 6; p++) good &= there[p] == (one[p] || two[p]);
            }
            if (good) bits += 1 << w;
        }
        return bits;
    }

    int clash(int s) {
        if (out(s, 0, 3)) return -2;
        if (rows[s] == null) return found(1);
        for (int item : rows[s]) if (out(item, 0, 63)) return -3;
        int first = -1;
        for (int k = 0; k < rows[s].length; k++) {
            int front = cells() - 1 - k;
            if (front >= 0 && (turned(rows[s][k]) & cellAt(front)) != 0) first = front;
        }
        return first;
    }

    int hand(int hand, int point, int v) {
        if (out(hand, 0, 2) || out(point, 0, 5) || out(v, 0, 99)) return -2;
        int was = hands[hand][point];
        hands[hand][point] = v;
        return was;
    }

    int whose() {
        int[] sums = new int[3];
        int missing = 0;
        for (int i = 0; i < cells(); i++) {
            boolean[] due = points(signOf(page().charAt(i)));
            boolean[] there = points(cellAt(i));
            for (int p = 0; p < 6; p++) {
                if (!due[p] || there[p]) continue;
                missing++;
                for (int h = 0; h < 3; h++) sums[h] += hands[h][p];
            }
        }
        if (missing == 0) return -1;
        int most = Math.max(sums[0], Math.max(sums[1], sums[2]));
        return sums[0] == most ? 0 : sums[1] == most ? 1 : 2;
    }

    int wear(int n, int cell) {
        if (out(n, 0, 99) || out(cell, -1, cells() - 1)) return -2;
        int[] left = new int[cells()];
        for (int i = 0; i < left.length; i++) left[i] = cellAt(i);
        int done = 0;
        // Rounds over the page: each reading goes to the next cell that has any.
        for (int round = 0; round < 7; round++) {
            for (int i = 0; i < left.length; i++) {
                if (done < n && left[i] > 0) {
                    left[i] -= Integer.highestOneBit(left[i]);
                    done++;
                }
            }
        }
        int sum = 0;
        for (int cells : left) sum += Integer.bitCount(cells);
        return cell == -1 ? sum : left[cell];
    }

    private static int kept(int form, int v) {
        return form == 0 ? (byte) v : form == 1 ? (short) v : v;
    }

    int sheet(int s, int form, int n) {
        if (out(s, 0, 3) || out(form, 0, 2) || n > 48) return -2;
        if (n < 0) return found(5);
        forms[s] = form;
        rows[s] = new int[n];
        return n;
    }

    int lose(int s) {
        if (out(s, 0, 3)) return -2;
        if (rows[s] == null) return found(1);
        int had = rows[s].length;
        rows[s] = null;
        return had;
    }

    private int refusal(int s, int form, int i) {
        if (rows[s] == null) return 1;
        if (forms[s] != form) return 3;
        return out(i, 0, rows[s].length - 1) ? 2 : 0;
    }

    int put(int s, int form, int i, int v) {
        if (out(s, 0, 3) || out(form, 0, 2)) return -2;
        int refusal = refusal(s, form, i);
        if (refusal > 0) return found(refusal);
        rows[s][i] = kept(form, v);
        return 1;
    }

    int get(int s, int form, int i) {
        if (out(s, 0, 3) || out(form, 0, 2)) return Integer.MIN_VALUE;
        int refusal = refusal(s, form, i);
        if (refusal > 0) found(refusal);
        return refusal > 0 ? Integer.MIN_VALUE : rows[s][i];
    }

    int copy(int s, int i, int t, int j, int n) {
        if (out(s, 0, 3) || out(t, 0, 3)) return -2;
        if (rows[s] == null || rows[t] == null) return found(1);
        if (forms[s] != forms[t]) return found(4);
        if (i < 0 || j < 0 || n < 0 || (long) i + n > rows[s].length || (long) j + n > rows[t].length) return found(2);
        int[] before = rows[s].clone();
        for (int k = 0; k < n; k++) rows[t][j + k] = before[i + k];
        return 1;
    }

    int write(int s) {
        if (out(s, 0, 3)) return -2;
        if (rows[s] == null) return found(1);
        int n = 0;
        for (; n < rows[s].length && n < cells(); n++) rows[s][n] = kept(forms[s], cellAt(n));
        return n;
    }

    int count(int what) {
        if (out(what, 0, 8)) return -2;
        int points = 0;
        int letters = 0;
        for (int i = 0; i < cells(); i++) {
            points += Integer.bitCount(cellAt(i));
            if (!out(letter(i), 0, 9)) letters++;
        }
        int ofSigns = 0;
        for (int sign : signs) ofSigns += Integer.bitCount(sign);
        int[] counts = {cells(), words().length, texts[0].length(), texts[1].length(), slips.size(), points, ofSigns, letters,
            finding};
        return counts[what];
    }

    long digest() {
        List<Integer> told = new ArrayList<>();
        for (int what = 0; what < 8; what++) told.add(count(what));
        told.add(fault(0));
        told.add(fault(1));
        told.add(judged());
        for (int i = 0; i < cells(); i++) {
            told.addAll(List.of(cell(i), letter(i), wrong(i), meant(i, 0), meant(i, 1), within(i, 5)));
        }
        for (int w = 0; w < words().length; w++) told.addAll(List.of(both(w), fits(w, 0), under(w, 0)));
        told.addAll(List.of(both(-1), line(0), line(1), slippery()));
        for (int letter = 0; letter < 10; letter++) told.add(better(letter));
        told.addAll(List.of(shorts(3, 0), shorts(3, 1), shorts(3, 2), whose(), wear(20, -1)));
        long h = 17;
        for (int v : told) h = 31 * h + v;
        return h;
    }
}
