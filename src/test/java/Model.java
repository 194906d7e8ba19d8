import java.math.BigInteger;
import java.util.ArrayList;
import java.util.Arrays;
import java.util.List;
import java.util.Map;
import java.util.TreeMap;
import java.util.regex.Matcher;
import java.util.regex.Pattern;

/**
 * A second telling of the document, as plain as can be and without regard to speed or room, so that
 * the class can be held against it. It shares no code and no way of holding things with the class.
 */
final class Model {
    private static final int BAD = -1, NO = -2, FULL = -3, NONE = -4;
    private static final Pattern ITEM = Pattern.compile("g(\\d\\d?),(\\d\\d?);|b(\\d\\d?);|w([a-f]{2,4});"
            + "|l(\\d\\d?)([a-f]);|s(\\d\\d?),(\\d\\d?),(\\d\\d?);");
    private static final String FIRST = "g3,4;b5;wace;wbad;wfade;wcafe;wde;wabe;wfed;l0f;s0,0,2;s1,0,3;"
            + "s2,1,4;s3,2,6;s4,0,3;s0,3,1;";

    /** Letters as signs ('.' none, '#' black) and wants as {place, word}. */
    private static final class Now {
        char[] grid;
        List<int[]> wants = new ArrayList<>();

        Now copy() {
            Now other = new Now();
            other.grid = grid.clone();
            for (int[] want : wants) {
                other.wants.add(want.clone());
            }
            return other;
        }
    }

    /** What a text tells. */
    private static final class Laid {
        int rows = 3;
        int columns = 4;
        final List<String> words = new ArrayList<>();
        final List<Integer> kinds = new ArrayList<>();
        final List<List<Integer>> places = new ArrayList<>();
        int across;
        Now start = new Now();
    }

    private String text = "";
    private Laid laid;
    private Now now;
    private List<Now> undo = new ArrayList<>();
    private List<Now> kept = new ArrayList<>();
    private List<int[]> told = new ArrayList<>();

    Model() {
        text = FIRST;
        lay();
        text = "";
    }

    // ---- the text

    private int read(Laid into) {
        List<Integer> black = new ArrayList<>();
        Map<Integer, Character> letters = new TreeMap<>();
        Matcher m = ITEM.matcher(text);
        boolean other = false;
        for (int at = 0; at < text.length(); at = m.end()) {
            m.region(at, text.length());
            if (!m.lookingAt()) {
                return at;
            }
            boolean so = true;
            int squares = into.rows * into.columns;
            switch (text.charAt(at)) {
                case 'g' -> {
                    into.rows = Integer.parseInt(m.group(1));
                    into.columns = Integer.parseInt(m.group(2));
                    so = !other && List.of(2, 3, 4).contains(into.rows) && List.of(2, 3, 4).contains(into.columns);
                }
                case 'b' -> {
                    black.add(Integer.parseInt(m.group(3)));
                    so = Integer.parseInt(m.group(3)) < squares;
                }
                case 'w' -> {
                    so = into.words.size() < 9 && !into.words.contains(m.group(4));
                    into.words.add(m.group(4));
                }
                case 'l' -> {
                    so = Integer.parseInt(m.group(5)) < squares;
                    letters.put(Integer.parseInt(m.group(5)), m.group(6).charAt(0));
                }
                default -> {
                    int[] want = {Integer.parseInt(m.group(8)), Integer.parseInt(m.group(9))};
                    int kind = Integer.parseInt(m.group(7));
                    so = kind <= 4 && want[0] <= 7 && want[1] < into.words.size() && into.kinds.size() < 6;
                    into.kinds.add(kind);
                    into.start.wants.add(want);
                }
            }
            if (!so) {
                return at;
            }
            other = other || text.charAt(at) != 'g';
        }
        char[] grid = new char[into.rows * into.columns];
        Arrays.fill(grid, '.');
        letters.forEach((x, c) -> grid[x] = c);
        black.forEach(x -> grid[x] = '#');
        into.start.grid = grid;
        for (int r = 0; r < into.rows; r++) {
            List<Integer> line = new ArrayList<>();
            for (int c = 0; c < into.columns; c++) {
                line.add(r * into.columns + c);
            }
            cut(line, into);
        }
        into.across = into.places.size();
        for (int c = 0; c < into.columns; c++) {
            List<Integer> line = new ArrayList<>();
            for (int r = 0; r < into.rows; r++) {
                line.add(r * into.columns + c);
            }
            cut(line, into);
        }
        return NONE;
    }

    private static void cut(List<Integer> line, Laid into) {
        List<Integer> run = new ArrayList<>();
        for (int x : line) {
            if (into.start.grid[x] == '#') {
                keepRun(run, into);
                run = new ArrayList<>();
            } else {
                run.add(x);
            }
        }
        keepRun(run, into);
    }

    private static void keepRun(List<Integer> run, Laid into) {
        if (run.size() >= 2) {
            into.places.add(run);
        }
    }

    int write(int letter) {
        if (letter < 32 || letter > 126) {
            return BAD;
        }
        if (text.length() == 200) {
            return FULL;
        }
        text += (char) letter;
        return text.length();
    }

    int wipe() {
        int length = text.length();
        text = "";
        return length;
    }

    int fault() {
        return read(new Laid());
    }

    int lay() {
        Laid next = new Laid();
        if (read(next) != NONE || next.words.isEmpty()) {
            return NO;
        }
        laid = next;
        now = next.start.copy();
        undo = new ArrayList<>();
        kept = new ArrayList<>();
        told = new ArrayList<>();
        return next.places.size();
    }

    // ---- what is told of the sheet

    private static boolean in(int i, List<?> list) {
        return i >= 0 && i < list.size();
    }

    private boolean isSquare(int x) {
        return x >= 0 && x < now.grid.length;
    }

    private static int letter(char c) {
        return c == '#' ? NONE : c == '.' ? 0 : c - 'a' + 1;
    }

    private String in(Now any, int p) {
        StringBuilder s = new StringBuilder();
        for (int x : laid.places.get(p)) {
            s.append(any.grid[x]);
        }
        return s.toString();
    }

    private boolean isFull(Now any, int p) {
        return in(any, p).indexOf('.') < 0;
    }

    private boolean fits(Now any, int p, int w) {
        return p < laid.places.size() && !isFull(any, p) && laid.words.get(w).matches(in(any, p));
    }

    private void put(Now any, int p, String letters) {
        for (int k = 0; k < laid.places.get(p).size(); k++) {
            any.grid[laid.places.get(p).get(k)] = letters.charAt(k);
        }
    }

    int square(int x) {
        return isSquare(x) ? letter(now.grid[x]) : BAD;
    }

    int place(int p, int what) {
        if (!in(p, laid.places) || what < 0 || what > 4) {
            return BAD;
        }
        int bits = 0;
        for (int w = 0; w < laid.words.size(); w++) {
            bits += fits(now, p, w) ? 1 << w : 0;
        }
        List<Integer> squares = laid.places.get(p);
        return new int[] {squares.get(0), squares.size(), p >= laid.across ? 1 : 0, isFull(now, p) ? 1 : 0, bits}[what];
    }

    int word(int w, int k) {
        if (!in(w, laid.words) || k < -1) {
            return BAD;
        }
        String word = laid.words.get(w);
        return k == -1 ? word.length() : k >= word.length() ? NONE : letter(word.charAt(k));
    }

    int solver(int s, int what) {
        if (!in(s, laid.kinds) || what < 0 || what > 3) {
            return BAD;
        }
        int[] want = now.wants.get(s);
        return new int[] {laid.kinds.get(s), want[0], want[1], amounts(now, 63)[s]}[what];
    }

    // ---- evenings

    private boolean sends(Now any, int s) {
        int[] want = any.wants.get(s);
        if (!fits(any, want[0], want[1])) {
            return false;
        }
        for (int p = 0; p < want[0]; p++) {
            if (laid.kinds.get(s) == 3 && !isFull(any, p)) {
                return false;
            }
        }
        return true;
    }

    private int[] amounts(Now any, int among) {
        int[] amounts = new int[laid.kinds.size()];
        for (int s = 0; s < amounts.length; s++) {
            if ((among & 1 << s) == 0 || !sends(any, s)) {
                continue;
            }
            int late = 1;
            for (int i = 0; i < s; i++) {
                late += amounts[i] > 0 && Arrays.equals(any.wants.get(i), any.wants.get(s)) ? 1 : 0;
            }
            int vowels = 1 + laid.words.get(any.wants.get(s)[1]).replaceAll("[^ae]", "").length();
            amounts[s] = new int[] {1, 2, vowels, 3, late}[laid.kinds.get(s)];
        }
        return amounts;
    }

    private Map<Integer, Integer> totals(Now any, int among) {
        Map<Integer, Integer> totals = new TreeMap<>();
        int[] amounts = amounts(any, among);
        for (int s = 0; s < amounts.length; s++) {
            if (amounts[s] > 0) {
                totals.merge(any.wants.get(s)[0] * 100 + any.wants.get(s)[1], amounts[s], Integer::sum);
            }
        }
        return totals;
    }

    /** Changes the letters; answers what is printed, each place times 100 and word. */
    private List<Integer> hold(Now any, int among) {
        Map<Integer, Integer> totals = totals(any, among);
        List<Integer> order = new ArrayList<>(totals.keySet());
        order.sort((a, b) -> totals.get(b) - totals.get(a));
        List<Integer> printed = new ArrayList<>();
        for (int one : order) {
            if (fits(any, one / 100, one % 100)) {
                put(any, one / 100, laid.words.get(one % 100));
                printed.add(one);
            }
        }
        return printed;
    }

    private void remember() {
        undo.add(now.copy());
        if (undo.size() > 8) {
            undo.remove(0);
        }
    }

    int evening() {
        remember();
        return hold(now, 63).size();
    }

    int set(int p, int w) {
        if (!in(p, laid.places) || !in(w, laid.words)) {
            return BAD;
        }
        if (!fits(now, p, w)) {
            return NO;
        }
        remember();
        int empty = in(now, p).replaceAll("[^.]", "").length();
        put(now, p, laid.words.get(w));
        return empty;
    }

    int strike(int p) {
        if (!in(p, laid.places)) {
            return BAD;
        }
        int stood = in(now, p).replace(".", "").length();
        if (stood == 0) {
            return NO;
        }
        remember();
        put(now, p, "....");
        return stood;
    }

    int want(int s, int p, int w) {
        if (!in(s, laid.kinds) || p < 0 || p > 7 || !in(w, laid.words)) {
            return BAD;
        }
        remember();
        return now.wants.set(s, new int[] {p, w})[1];
    }

    int undo() {
        if (undo.isEmpty()) {
            return NO;
        }
        now = undo.remove(undo.size() - 1);
        return undo.size();
    }

    // ---- what comes

    int behind(int n, int x) {
        if (n < 0 || n > 20 || !isSquare(x)) {
            return BAD;
        }
        Now then = now.copy();
        for (int i = 0; i < n; i++) {
            hold(then, 63);
        }
        return letter(then.grid[x]);
    }

    /** Each filling as {words, letters}. */
    private List<int[][]> all() {
        List<int[][]> all = new ArrayList<>();
        all(now.copy(), new int[laid.places.size()], 0, all);
        return all;
    }

    private void all(Now any, int[] words, int p, List<int[][]> into) {
        if (p == words.length) {
            int[] letters = new int[any.grid.length];
            for (int x = 0; x < letters.length; x++) {
                letters[x] = letter(any.grid[x]);
            }
            into.add(new int[][] {words.clone(), letters});
            return;
        }
        for (int w = 0; w < laid.words.size(); w++) {
            if (laid.words.get(w).matches(in(any, p))) {
                Now next = any.copy();
                put(next, p, laid.words.get(w));
                words[p] = w;
                all(next, words, p + 1, into);
            }
        }
    }

    int fillings(int p) {
        if (p != -1 && !in(p, laid.places)) {
            return BAD;
        }
        List<int[][]> all = all();
        return p == -1 ? all.size() : all.isEmpty() ? NONE : all.get(0)[0][p];
    }

    int must(int x) {
        if (!isSquare(x)) {
            return BAD;
        }
        int[] letters = all().stream().mapToInt(one -> one[1][x]).distinct().toArray();
        return letters.length == 1 && letters[0] > 0 ? letters[0] : NONE;
    }

    int best() {
        return all().stream().mapToInt(one -> Arrays.stream(one[1]).filter(v -> v > 0).sum()).max().orElse(NONE);
    }

    int dead() {
        int bits = 0;
        for (int p = 0; p < laid.places.size(); p++) {
            bits += place(p, 3) == 0 && place(p, 4) == 0 ? 1 << p : 0;
        }
        return bits;
    }

    int counts(int p, int w, int what) {
        if (!in(p, laid.places) || !in(w, laid.words) || what < 0 || what > 1) {
            return BAD;
        }
        return what == 0 ? totals(now, 63).getOrDefault(p * 100 + w, 0) : hold(now.copy(), 63).contains(p * 100 + w) ? 1 : 0;
    }

    int win(int p, int w) {
        if (!in(p, laid.places) || !in(w, laid.words)) {
            return BAD;
        }
        for (int size = 0; size <= laid.kinds.size(); size++) {
            for (int set = 0; set < 1 << laid.kinds.size(); set++) {
                Now then = now.copy();
                for (int s = 0; s < laid.kinds.size(); s++) {
                    if ((set & 1 << s) != 0) {
                        then.wants.set(s, new int[] {p, w});
                    }
                }
                if (Integer.bitCount(set) == size && hold(then, 63).contains(p * 100 + w)) {
                    return set;
                }
            }
        }
        return NONE;
    }

    // ---- what was sent

    int sent(int s, boolean did) {
        if (!in(s, laid.kinds)) {
            return BAD;
        }
        if (told.size() == 6) {
            return FULL;
        }
        told.add(new int[] {s, did ? 1 : 0});
        return told.size();
    }

    int forget() {
        int before = told.size();
        told.clear();
        return before;
    }

    int wants(int s) {
        if (!in(s, laid.kinds)) {
            return BAD;
        }
        int bits = 0;
        for (int w = 0; w < laid.words.size(); w++) {
            Now then = now.copy();
            then.wants.get(s)[1] = w;
            bits += told.stream().allMatch(one -> one[0] != s || sends(then, s) == (one[1] == 1)) ? 1 << w : 0;
        }
        return bits;
    }

    int letters(int x) {
        if (!isSquare(x)) {
            return BAD;
        }
        if (now.grid[x] == '#') {
            return NO;
        }
        int bits = 0;
        for (int a = 0; a <= 6; a++) {
            Now then = now.copy();
            then.grid[x] = ".abcdef".charAt(a);
            bits += told.stream().allMatch(one -> sends(then, one[0]) == (one[1] == 1)) ? 1 << a : 0;
        }
        return bits;
    }

    // ---- chance, weeks

    int chance(int p, int w, int x, int part) {
        if (!in(p, laid.places) || !in(w, laid.words) || x < 0 || x > 10 || part < 0 || part > 1) {
            return BAD;
        }
        // By all solvers, also those who would not send: with or without them nothing changes.
        BigInteger above = BigInteger.ZERO;
        int solvers = laid.kinds.size();
        for (int set = 0; set < 1 << solvers; set++) {
            if (hold(now.copy(), set).contains(p * 100 + w)) {
                int who = Integer.bitCount(set);
                above = above.add(BigInteger.valueOf(x).pow(who).multiply(BigInteger.valueOf(10 - x).pow(solvers - who)));
            }
        }
        BigInteger below = BigInteger.TEN.pow(solvers);
        BigInteger common = above.gcd(below);
        return (part == 0 ? above : below).divide(common).intValueExact();
    }

    int weeks(int z, int n, int what) {
        if (z < 0 || z > 9999 || n < 1 || n > 40 || what < 0 || what > 1) {
            return BAD;
        }
        Now then = now.copy();
        int printed = 0;
        for (int k = 0; k < n; k++) {
            int draw = BigInteger.valueOf(7919L * z + 6151L * k + 1).pow(2).mod(BigInteger.valueOf(65521)).intValue();
            if (!laid.kinds.isEmpty() && !laid.places.isEmpty()) {
                int p = (draw >> 6) % laid.places.size();
                then.wants.set(draw % laid.kinds.size(), new int[] {p, (draw >> 3) % laid.words.size()});
                if ((draw >> 10) % 4 == 0) {
                    put(then, p, "....");
                }
            }
            printed += hold(then, 63).size();
        }
        int filled = 0;
        for (int p = 0; p < laid.places.size(); p++) {
            filled += isFull(then, p) ? 1 : 0;
        }
        return what == 0 ? filled : printed;
    }

    int keep() {
        if (kept.size() == 2) {
            return FULL;
        }
        kept.add(now.copy());
        return kept.size();
    }

    int back() {
        if (kept.isEmpty()) {
            return NO;
        }
        now = kept.remove(kept.size() - 1);
        undo.clear();
        return kept.size();
    }

    int count(int what) {
        if (what < 0 || what > 9) {
            return BAD;
        }
        int standing = new String(now.grid).replaceAll("[.#]", "").length();
        return new int[] {now.grid.length, laid.rows, laid.places.size(), laid.words.size(), laid.kinds.size(),
            standing, told.size(), undo.size(), kept.size(), text.length()}[what];
    }
}
