import java.util.Arrays;

/** The crossword of an evening paper that its solvers build up word by word; see README.md. */
public final class EveningCrossword {
    public static final int BAD = -1, NO = -2, FULL = -3, NONE = -4;

    private static final int MOST_SIGNS = 200, MOST_SQUARES = 16, MOST_PLACES = 8, MOST_WORDS = 9;
    private static final int MOST_SOLVERS = 6, MOST_TOLD = 6, MOST_UNDONE = 8, MOST_KEPT = 2;
    private static final int LONGEST = 4, LETTERS = 6, MOST_EVENINGS_AHEAD = 20;
    private static final int HIGHEST_SEED = 9999, MOST_WEEKS_EVENINGS = 40, TENTHS = 10;
    private static final int PARTY = 1, VOWEL = 2, LADY = 3, LATE = 4;
    private static final int EVERYONE = (1 << MOST_SOLVERS) - 1;

    private static final String FIRST_TEXT = "g3,4;b5;wace;wbad;wfade;wcafe;wde;wabe;wfed;l0f;s0,0,2;s1,0,3;s2,1,4;s3,2,6;s4,0,3;s0,3,1;";

    private final Reader reader = new Reader();
    private Sheet sheet = new Sheet();
    // A text is read into this one, so that a text with a fault leaves the sheet that is laid alone.
    private Sheet spare = new Sheet();
    private final Paper paper = new Paper();
    // What would be is tried here, so that the paper itself stays as it is.
    private final Paper trial = new Paper();
    private final Round round = new Round();
    private final Search search = new Search();
    private final Pile undoable = new Pile(MOST_UNDONE);
    private final Pile kept = new Pile(MOST_KEPT);
    private final int[] toldSolver = new int[MOST_TOLD];
    private final boolean[] toldDid = new boolean[MOST_TOLD];
    private int told;

    public EveningCrossword() {
        for (int i = 0; i < FIRST_TEXT.length(); i++) {
            reader.append(FIRST_TEXT.charAt(i));
        }
        layText();
        reader.length = 0;
    }

    // ---- sheets

    public int write(int letter) {
        if (letter < ' ' || letter > '~') {
            return BAD;
        }
        return reader.append(letter) ? reader.length : FULL;
    }

    public int wipe() {
        int before = reader.length;
        reader.length = 0;
        return before;
    }

    public int fault() {
        return reader.readInto(spare);
    }

    public int lay() {
        return layText() ? sheet.placeCount : NO;
    }

    public int square(int x) {
        if (!isSquare(x)) {
            return BAD;
        }
        return letterIn(paper, x);
    }

    public int place(int p, int what) {
        if (!isPlace(p)) {
            return BAD;
        }
        switch (what) {
            case 0:
                return sheet.placeSquare[p * LONGEST];
            case 1:
                return sheet.placeLength[p];
            case 2:
                return sheet.isDown[p] ? 1 : 0;
            case 3:
                return sheet.isFilled(paper, p) ? 1 : 0;
            case 4:
                return sheet.fitting(paper, p);
            default:
                return BAD;
        }
    }

    public int word(int w, int k) {
        if (!isWord(w) || k < -1) {
            return BAD;
        }
        int length = sheet.wordLength[w];
        if (k == -1) {
            return length;
        }
        return k < length ? Sheet.letterOf(sheet.wordCode[w], k) : NONE;
    }

    public int solver(int s, int what) {
        if (!isSolver(s)) {
            return BAD;
        }
        switch (what) {
            case 0:
                return sheet.kind[s];
            case 1:
                return paper.wantedPlace[s];
            case 2:
                return paper.wantedWord[s];
            case 3:
                round.send(sheet, paper, EVERYONE);
                return round.amount[s];
            default:
                return BAD;
        }
    }

    // ---- evenings

    public int evening() {
        undoable.push(paper);
        return round.hold(sheet, paper, EVERYONE);
    }

    public int set(int p, int w) {
        if (!isPlace(p) || !isWord(w)) {
            return BAD;
        }
        if (!sheet.fits(paper, p, w)) {
            return NO;
        }
        int empty = sheet.placeLength[p] - sheet.lettersIn(paper, p);
        undoable.push(paper);
        sheet.put(paper, p, sheet.wordCode[w]);
        return empty;
    }

    public int strike(int p) {
        if (!isPlace(p)) {
            return BAD;
        }
        int stood = sheet.lettersIn(paper, p);
        if (stood == 0) {
            return NO;
        }
        undoable.push(paper);
        sheet.put(paper, p, 0);
        return stood;
    }

    public int want(int s, int p, int w) {
        if (!isSolver(s) || p < 0 || p >= MOST_PLACES || !isWord(w)) {
            return BAD;
        }
        int before = paper.wantedWord[s];
        undoable.push(paper);
        paper.wish(s, p, w);
        return before;
    }

    public int undo() {
        return undoable.pop(paper) ? undoable.size : NO;
    }

    // ---- what comes

    public int behind(int n, int x) {
        if (n < 0 || n > MOST_EVENINGS_AHEAD || !isSquare(x)) {
            return BAD;
        }
        trial.copy(paper);
        for (int i = 0; i < n; i++) {
            round.hold(sheet, trial, EVERYONE);
        }
        return letterIn(trial, x);
    }

    public int fillings(int p) {
        if (p != -1 && !isPlace(p)) {
            return BAD;
        }
        search.run(sheet, paper);
        if (p == -1) {
            return search.found;
        }
        return search.found > 0 ? search.first[p] : NONE;
    }

    public int must(int x) {
        if (!isSquare(x)) {
            return BAD;
        }
        search.run(sheet, paper);
        return search.found > 0 && search.common[x] != 0 ? search.common[x] : NONE;
    }

    public int best() {
        search.run(sheet, paper);
        return search.found > 0 ? search.mostValue : NONE;
    }

    public int dead() {
        int bits = 0;
        for (int p = 0; p < sheet.placeCount; p++) {
            if (!sheet.isFilled(paper, p) && sheet.fitting(paper, p) == 0) {
                bits |= 1 << p;
            }
        }
        return bits;
    }

    public int counts(int p, int w, int what) {
        if (!isPlace(p) || !isWord(w) || what < 0 || what > 1) {
            return BAD;
        }
        trial.copy(paper);
        round.hold(sheet, trial, EVERYONE);
        if (what == 0) {
            return round.totalOf(sheet, trial, p, w);
        }
        return round.hasPrinted(sheet, trial, p, w) ? 1 : 0;
    }

    public int win(int p, int w) {
        if (!isPlace(p) || !isWord(w)) {
            return BAD;
        }
        int fewest = MOST_SOLVERS + 1;
        int lowest = NONE;
        for (int set = 0; set < 1 << sheet.solverCount; set++) {
            int size = Integer.bitCount(set);
            if (size < fewest && isPrintedByWinning(set, p, w)) {
                fewest = size;
                lowest = set;
            }
        }
        return lowest;
    }

    // ---- what was sent

    public int sent(int s, boolean did) {
        if (!isSolver(s)) {
            return BAD;
        }
        if (told >= MOST_TOLD) {
            return FULL;
        }
        toldSolver[told] = s;
        toldDid[told] = did;
        told++;
        return told;
    }

    public int forget() {
        int before = told;
        told = 0;
        return before;
    }

    public int wants(int s) {
        if (!isSolver(s)) {
            return BAD;
        }
        int bits = 0;
        trial.copy(paper);
        for (int w = 0; w < sheet.wordCount; w++) {
            trial.wantedWord[s] = w;
            if (isAsTold(s)) {
                bits |= 1 << w;
            }
        }
        return bits;
    }

    public int letters(int x) {
        if (!isSquare(x)) {
            return BAD;
        }
        if (sheet.isBlack[x]) {
            return NO;
        }
        int bits = 0;
        trial.copy(paper);
        for (int letter = 0; letter <= LETTERS; letter++) {
            trial.letter[x] = letter;
            if (isAllAsTold()) {
                bits |= 1 << letter;
            }
        }
        return bits;
    }

    // ---- chance, weeks

    public int chance(int p, int w, int x, int part) {
        if (!isPlace(p) || !isWord(w) || x < 0 || x > TENTHS || part < 0 || part > 1) {
            return BAD;
        }
        round.send(sheet, paper, EVERYONE);
        int senders = round.senders(sheet);
        int above = 0;
        for (int set = 0; set < 1 << sheet.solverCount; set++) {
            if ((set & ~senders) == 0 && isPrintedBySending(set, p, w)) {
                above += power(x, Integer.bitCount(set))
                        * power(TENTHS - x, Integer.bitCount(senders & ~set));
            }
        }
        int below = power(TENTHS, Integer.bitCount(senders));
        int common = commonDivisor(above, below);
        if (common == 0) {
            return BAD;
        }
        return part == 0 ? above / common : below / common;
    }

    public int weeks(int z, int n, int what) {
        if (z < 0 || z > HIGHEST_SEED || n < 1 || n > MOST_WEEKS_EVENINGS || what < 0 || what > 1) {
            return BAD;
        }
        int printed = 0;
        trial.copy(paper);
        for (int k = 0; k < n; k++) {
            applyDraw(drawOf(z, k));
            printed += round.hold(sheet, trial, EVERYONE);
        }
        return what == 0 ? filledPlaces(trial) : printed;
    }

    public int keep() {
        if (kept.size >= MOST_KEPT) {
            return FULL;
        }
        kept.push(paper);
        return kept.size;
    }

    public int back() {
        if (!kept.pop(paper)) {
            return NO;
        }
        undoable.size = 0;
        return kept.size;
    }

    public int count(int what) {
        switch (what) {
            case 0:
                return sheet.squareCount();
            case 1:
                return sheet.rows;
            case 2:
                return sheet.placeCount;
            case 3:
                return sheet.wordCount;
            case 4:
                return sheet.solverCount;
            case 5:
                return paper.standing();
            case 6:
                return told;
            case 7:
                return undoable.size;
            case 8:
                return kept.size;
            case 9:
                return reader.length;
            default:
                return BAD;
        }
    }

    // ---- what the calls share

    private boolean layText() {
        if (reader.readInto(spare) != NONE || spare.wordCount == 0) {
            return false;
        }
        Sheet before = sheet;
        sheet = spare;
        spare = before;
        paper.copy(sheet.start);
        undoable.size = 0;
        kept.size = 0;
        told = 0;
        return true;
    }

    private boolean isSquare(int x) {
        return x >= 0 && x < sheet.squareCount();
    }

    private boolean isPlace(int p) {
        return p >= 0 && p < sheet.placeCount;
    }

    private boolean isWord(int w) {
        return w >= 0 && w < sheet.wordCount;
    }

    private boolean isSolver(int s) {
        return s >= 0 && s < sheet.solverCount;
    }

    private int letterIn(Paper any, int x) {
        return sheet.isBlack[x] ? NONE : any.letter[x];
    }

    private boolean isPrintedByWinning(int set, int p, int w) {
        trial.copy(paper);
        for (int s = 0; s < sheet.solverCount; s++) {
            if ((set >> s & 1) != 0) {
                trial.wish(s, p, w);
            }
        }
        round.hold(sheet, trial, EVERYONE);
        return round.hasPrinted(sheet, trial, p, w);
    }

    private boolean isPrintedBySending(int set, int p, int w) {
        trial.copy(paper);
        round.hold(sheet, trial, set);
        return round.hasPrinted(sheet, trial, p, w);
    }

    private boolean isAllAsTold() {
        for (int s = 0; s < sheet.solverCount; s++) {
            if (!isAsTold(s)) {
                return false;
            }
        }
        return true;
    }

    private boolean isAsTold(int s) {
        boolean sends = sheet.sends(trial, s);
        for (int i = 0; i < told; i++) {
            if (toldSolver[i] == s && toldDid[i] != sends) {
                return false;
            }
        }
        return true;
    }

    private static int drawOf(int z, int k) {
        long x = 7919L * z + 6151L * k + 1;
        return (int) (x * x % 65521);
    }

    private void applyDraw(int draw) {
        if (sheet.solverCount == 0 || sheet.placeCount == 0 || sheet.wordCount == 0) {
            return;
        }
        int p = draw / 64 % sheet.placeCount;
        trial.wish(draw % sheet.solverCount, p, draw / 8 % sheet.wordCount);
        if (draw / 1024 % 4 == 0) {
            sheet.put(trial, p, 0);
        }
    }

    private int filledPlaces(Paper any) {
        int filled = 0;
        for (int p = 0; p < sheet.placeCount; p++) {
            if (sheet.isFilled(any, p)) {
                filled++;
            }
        }
        return filled;
    }

    private static int power(int base, int exponent) {
        int product = 1;
        for (int i = 0; i < exponent; i++) {
            product *= base;
        }
        return product;
    }

    private static int commonDivisor(int a, int b) {
        // Numbers up to a million need some thirty steps at most.
        for (int i = 0; i < 64 && b != 0; i++) {
            int rest = a % b;
            a = b;
            b = rest;
        }
        return a;
    }

    /** What evenings change: the letters that stand, and what each solver wants. */
    private static final class Paper {
        private final int[] letter = new int[MOST_SQUARES];
        private final int[] wantedPlace = new int[MOST_SOLVERS];
        private final int[] wantedWord = new int[MOST_SOLVERS];

        private void copy(Paper other) {
            System.arraycopy(other.letter, 0, letter, 0, MOST_SQUARES);
            System.arraycopy(other.wantedPlace, 0, wantedPlace, 0, MOST_SOLVERS);
            System.arraycopy(other.wantedWord, 0, wantedWord, 0, MOST_SOLVERS);
        }

        private void clear() {
            Arrays.fill(letter, 0);
            Arrays.fill(wantedPlace, 0);
            Arrays.fill(wantedWord, 0);
        }

        private void wish(int s, int p, int w) {
            wantedPlace[s] = p;
            wantedWord[s] = w;
        }

        private boolean isWanted(int s, int p, int w) {
            return wantedPlace[s] == p && wantedWord[s] == w;
        }

        private int standing() {
            int letters = 0;
            for (int x = 0; x < MOST_SQUARES; x++) {
                if (letter[x] != 0) {
                    letters++;
                }
            }
            return letters;
        }
    }

    /** Copies of papers, the latest on top; when it is full, the oldest makes room. */
    private static final class Pile {
        private final int most;
        private final int[] letter;
        private final int[] wantedPlace;
        private final int[] wantedWord;
        private int size;

        private Pile(int most) {
            this.most = most;
            letter = new int[most * MOST_SQUARES];
            wantedPlace = new int[most * MOST_SOLVERS];
            wantedWord = new int[most * MOST_SOLVERS];
        }

        private void push(Paper paper) {
            if (size >= most) {
                dropOldest();
            }
            System.arraycopy(paper.letter, 0, letter, size * MOST_SQUARES, MOST_SQUARES);
            System.arraycopy(paper.wantedPlace, 0, wantedPlace, size * MOST_SOLVERS, MOST_SOLVERS);
            System.arraycopy(paper.wantedWord, 0, wantedWord, size * MOST_SOLVERS, MOST_SOLVERS);
            size++;
        }

        private void dropOldest() {
            size = most - 1;
            System.arraycopy(letter, MOST_SQUARES, letter, 0, size * MOST_SQUARES);
            System.arraycopy(wantedPlace, MOST_SOLVERS, wantedPlace, 0, size * MOST_SOLVERS);
            System.arraycopy(wantedWord, MOST_SOLVERS, wantedWord, 0, size * MOST_SOLVERS);
        }

        private boolean pop(Paper paper) {
            if (size <= 0) {
                return false;
            }
            size--;
            System.arraycopy(letter, size * MOST_SQUARES, paper.letter, 0, MOST_SQUARES);
            System.arraycopy(wantedPlace, size * MOST_SOLVERS, paper.wantedPlace, 0, MOST_SOLVERS);
            System.arraycopy(wantedWord, size * MOST_SOLVERS, paper.wantedWord, 0, MOST_SOLVERS);
            return true;
        }
    }

    /**
     * What a text lays down and no evening changes: the grid, its places, the words, the solvers'
     * kinds. The letters of a word, or of a place, are told by one number, its code: three bits a
     * letter, the first one lowest, 0 for none.
     */
    private static final class Sheet {
        private int rows;
        private int columns;
        private final boolean[] isBlack = new boolean[MOST_SQUARES];
        private int placeCount;
        private final int[] placeLength = new int[MOST_PLACES];
        private final int[] placeSquare = new int[MOST_PLACES * LONGEST];
        private final boolean[] isDown = new boolean[MOST_PLACES];
        private int wordCount;
        private final int[] wordLength = new int[MOST_WORDS];
        private final int[] wordCode = new int[MOST_WORDS];
        private final int[] wordsOfLength = new int[LONGEST + 1];
        private final int[] wordsWith = new int[LONGEST * (LETTERS + 1)];
        private int solverCount;
        private final int[] kind = new int[MOST_SOLVERS];
        private final Paper start = new Paper();

        private void clear() {
            rows = 3;
            columns = 4;
            placeCount = 0;
            wordCount = 0;
            solverCount = 0;
            for (int x = 0; x < MOST_SQUARES; x++) {
                isBlack[x] = false;
            }
            Arrays.fill(wordsOfLength, 0);
            Arrays.fill(wordsWith, 0);
            start.clear();
        }

        // ---- laying it: each answers whether the item can be so

        private boolean layGrid(int r, int c) {
            if (r < 2 || r > LONGEST || c < 2 || c > LONGEST) {
                return false;
            }
            rows = r;
            columns = c;
            return true;
        }

        private boolean blacken(int x) {
            if (x < 0 || x >= squareCount()) {
                return false;
            }
            isBlack[x] = true;
            return true;
        }

        private boolean addWord(int code, int length) {
            if (length < 2 || length > LONGEST || wordCount >= MOST_WORDS || isListed(code)) {
                return false;
            }
            wordCode[wordCount] = code;
            wordLength[wordCount] = length;
            wordsOfLength[length] |= 1 << wordCount;
            for (int k = 0; k < length; k++) {
                wordsWith[k * (LETTERS + 1) + letterOf(code, k)] |= 1 << wordCount;
            }
            wordCount++;
            return true;
        }

        private boolean isListed(int code) {
            for (int w = 0; w < wordCount; w++) {
                if (wordCode[w] == code) {
                    return true;
                }
            }
            return false;
        }

        private boolean putFirst(int x, int letter) {
            if (x < 0 || x >= squareCount() || letter < 1 || letter > LETTERS) {
                return false;
            }
            start.letter[x] = letter;
            return true;
        }

        private boolean addSolver(int k, int p, int w) {
            if (k < 0 || k > LATE || p < 0 || p >= MOST_PLACES || w < 0 || w >= wordCount
                    || solverCount >= MOST_SOLVERS) {
                return false;
            }
            kind[solverCount] = k;
            start.wish(solverCount, p, w);
            solverCount++;
            return true;
        }

        private void finish() {
            // Only now: a square may be told black behind its letter.
            for (int x = 0; x < MOST_SQUARES; x++) {
                if (isBlack[x]) {
                    start.letter[x] = 0;
                }
            }
            for (int r = 0; r < rows; r++) {
                findPlaces(r * columns, 1, columns, false);
            }
            for (int c = 0; c < columns; c++) {
                findPlaces(c, columns, rows, true);
            }
        }

        private void findPlaces(int first, int step, int squares, boolean down) {
            int run = 0;
            for (int i = 0; i <= squares; i++) {
                if (i < squares && !isBlack[first + i * step]) {
                    run++;
                } else {
                    addPlace(first + (i - run) * step, step, run, down);
                    run = 0;
                }
            }
        }

        private void addPlace(int first, int step, int length, boolean down) {
            if (length < 2 || placeCount >= MOST_PLACES) {
                return;
            }
            for (int k = 0; k < length; k++) {
                placeSquare[placeCount * LONGEST + k] = first + k * step;
            }
            placeLength[placeCount] = length;
            isDown[placeCount] = down;
            placeCount++;
        }

        // ---- asking it

        private int squareCount() {
            return rows * columns;
        }

        private static int letterOf(int code, int k) {
            return code >> 3 * k & 7;
        }

        private int codeOf(Paper paper, int p) {
            int code = 0;
            for (int k = 0; k < placeLength[p]; k++) {
                code |= paper.letter[placeSquare[p * LONGEST + k]] << 3 * k;
            }
            return code;
        }

        private void put(Paper paper, int p, int code) {
            for (int k = 0; k < placeLength[p]; k++) {
                paper.letter[placeSquare[p * LONGEST + k]] = letterOf(code, k);
            }
        }

        private int lettersIn(Paper paper, int p) {
            int letters = 0;
            for (int k = 0; k < placeLength[p]; k++) {
                if (paper.letter[placeSquare[p * LONGEST + k]] != 0) {
                    letters++;
                }
            }
            return letters;
        }

        private boolean isFilled(Paper paper, int p) {
            for (int k = 0; k < placeLength[p]; k++) {
                if (paper.letter[placeSquare[p * LONGEST + k]] == 0) {
                    return false;
                }
            }
            return true;
        }

        /** The words (bits) as long as the place that have each letter that stands there. */
        private int agreeing(Paper paper, int p) {
            int length = placeLength[p];
            int words = wordsOfLength[length];
            for (int k = 0; k < length; k++) {
                int letter = paper.letter[placeSquare[p * LONGEST + k]];
                if (letter != 0) {
                    words &= wordsWith[k * (LETTERS + 1) + letter];
                }
            }
            return words;
        }

        private int fitting(Paper paper, int p) {
            return isFilled(paper, p) ? 0 : agreeing(paper, p);
        }

        private boolean fits(Paper paper, int p, int w) {
            return p < placeCount && !isFilled(paper, p) && (agreeing(paper, p) >> w & 1) != 0;
        }

        private boolean sends(Paper paper, int s) {
            int p = paper.wantedPlace[s];
            return fits(paper, p, paper.wantedWord[s])
                    && (kind[s] != LADY || p == lowestOpen(paper));
        }

        private int lowestOpen(Paper paper) {
            for (int p = 0; p < placeCount; p++) {
                if (!isFilled(paper, p)) {
                    return p;
                }
            }
            return NONE;
        }

        private int vowelsIn(int w) {
            int vowels = 0;
            for (int k = 0; k < wordLength[w]; k++) {
                int letter = letterOf(wordCode[w], k);
                if (letter == 1 || letter == 5) {
                    vowels++;
                }
            }
            return vowels;
        }
    }

    /** Reads the text item by item into a sheet. */
    private static final class Reader {
        private static final int END = 0;

        private final int[] text = new int[MOST_SIGNS];
        private int length;
        private int at;

        private boolean append(int sign) {
            if (length >= MOST_SIGNS) {
                return false;
            }
            text[length] = sign;
            length++;
            return true;
        }

        /** Answers where the first item begins that is not so, or NONE. */
        private int readInto(Sheet sheet) {
            sheet.clear();
            at = 0;
            boolean isGridOpen = true;
            // An item has a sign at least, so there are not more items than signs.
            for (int items = 0; items < MOST_SIGNS && at < length; items++) {
                int first = at;
                isGridOpen = isGridOpen && text[first] == 'g';
                if (!readItem(sheet, isGridOpen)) {
                    return first;
                }
            }
            sheet.finish();
            return NONE;
        }

        private boolean readItem(Sheet sheet, boolean isGridOpen) {
            switch (next()) {
                case 'g':
                    return isGridOpen && readGrid(sheet);
                case 'b':
                    return sheet.blacken(readNumber()) && next() == ';';
                case 'w':
                    return readWord(sheet);
                case 'l':
                    return sheet.putFirst(readNumber(), readLetter()) && next() == ';';
                case 's':
                    return readSolver(sheet);
                default:
                    return false;
            }
        }

        private boolean readGrid(Sheet sheet) {
            int rows = readNumber();
            boolean isParted = next() == ',';
            int columns = readNumber();
            return isParted && next() == ';' && sheet.layGrid(rows, columns);
        }

        private boolean readWord(Sheet sheet) {
            int code = 0;
            int letters = 0;
            // One letter more than a word may have is read, so that the sheet refuses it.
            for (int k = 0; k <= LONGEST && isLetter(peek()); k++) {
                code |= readLetter() << 3 * k;
                letters++;
            }
            return next() == ';' && sheet.addWord(code, letters);
        }

        private boolean readSolver(Sheet sheet) {
            int kind = readNumber();
            boolean isParted = next() == ',';
            int p = readNumber();
            isParted = next() == ',' && isParted;
            int w = readNumber();
            return isParted && next() == ';' && sheet.addSolver(kind, p, w);
        }

        private int readNumber() {
            if (!isFigure(peek())) {
                return BAD;
            }
            int number = next() - '0';
            if (isFigure(peek())) {
                number = number * 10 + next() - '0';
            }
            return number;
        }

        private int readLetter() {
            return isLetter(peek()) ? next() - 'a' + 1 : BAD;
        }

        private int peek() {
            return at < length ? text[at] : END;
        }

        private int next() {
            int sign = at < length ? text[at] : END;
            at++;
            return sign;
        }

        private static boolean isFigure(int sign) {
            return sign >= '0' && sign <= '9';
        }

        private static boolean isLetter(int sign) {
            return sign >= 'a' && sign <= 'f';
        }
    }

    /** One evening: how much each solver counts, and what is printed. */
    private static final class Round {
        private final int[] amount = new int[MOST_SOLVERS];
        private final int[] total = new int[MOST_SOLVERS];
        private final boolean[] isWaiting = new boolean[MOST_SOLVERS];
        private final boolean[] isPrinted = new boolean[MOST_SOLVERS];

        /** Holds the evening with those solvers (bits) who may send; answers how many words are printed. */
        private int hold(Sheet sheet, Paper paper, int among) {
            send(sheet, paper, among);
            for (int s = 0; s < sheet.solverCount; s++) {
                total[s] = totalOf(sheet, paper, paper.wantedPlace[s], paper.wantedWord[s]);
                isWaiting[s] = amount[s] > 0;
                isPrinted[s] = false;
            }
            int printed = 0;
            for (int turn = 0; turn < sheet.solverCount; turn++) {
                if (printNext(sheet, paper)) {
                    printed++;
                }
            }
            return printed;
        }

        private void send(Sheet sheet, Paper paper, int among) {
            for (int s = 0; s < sheet.solverCount; s++) {
                boolean may = (among >> s & 1) != 0;
                amount[s] = may && sheet.sends(paper, s) ? amountOf(sheet, paper, s) : 0;
            }
        }

        private int amountOf(Sheet sheet, Paper paper, int s) {
            switch (sheet.kind[s]) {
                case PARTY:
                    return 2;
                case VOWEL:
                    return 1 + sheet.vowelsIn(paper.wantedWord[s]);
                case LADY:
                    return 3;
                case LATE:
                    return 1 + sendersAhead(paper, s);
                default:
                    return 1;
            }
        }

        private int sendersAhead(Paper paper, int s) {
            int ahead = 0;
            for (int i = 0; i < s; i++) {
                if (amount[i] > 0 && paper.isWanted(i, paper.wantedPlace[s], paper.wantedWord[s])) {
                    ahead++;
                }
            }
            return ahead;
        }

        private boolean printNext(Sheet sheet, Paper paper) {
            int s = nextInTurn(sheet, paper);
            if (s < 0) {
                return false;
            }
            isWaiting[s] = false;
            int p = paper.wantedPlace[s];
            int w = paper.wantedWord[s];
            // What another solver had printed already fits no more: its place is full.
            if (!sheet.fits(paper, p, w)) {
                return false;
            }
            sheet.put(paper, p, sheet.wordCode[w]);
            isPrinted[s] = true;
            return true;
        }

        private int nextInTurn(Sheet sheet, Paper paper) {
            int chosen = NONE;
            for (int s = 0; s < sheet.solverCount; s++) {
                if (isWaiting[s] && (chosen < 0 || isAhead(paper, s, chosen))) {
                    chosen = s;
                }
            }
            return chosen;
        }

        private boolean isAhead(Paper paper, int s, int other) {
            if (total[s] != total[other]) {
                return total[s] > total[other];
            }
            if (paper.wantedPlace[s] != paper.wantedPlace[other]) {
                return paper.wantedPlace[s] < paper.wantedPlace[other];
            }
            return paper.wantedWord[s] < paper.wantedWord[other];
        }

        private int totalOf(Sheet sheet, Paper paper, int p, int w) {
            int sum = 0;
            for (int s = 0; s < sheet.solverCount; s++) {
                if (paper.isWanted(s, p, w)) {
                    sum += amount[s];
                }
            }
            return sum;
        }

        private boolean hasPrinted(Sheet sheet, Paper paper, int p, int w) {
            for (int s = 0; s < sheet.solverCount; s++) {
                if (isPrinted[s] && paper.isWanted(s, p, w)) {
                    return true;
                }
            }
            return false;
        }

        private int senders(Sheet sheet) {
            int bits = 0;
            for (int s = 0; s < sheet.solverCount; s++) {
                if (amount[s] > 0) {
                    bits |= 1 << s;
                }
            }
            return bits;
        }
    }

    /** Goes through all fillings of a paper. */
    private static final class Search {
        private final Paper grid = new Paper();
        private final int[] chosen = new int[MOST_PLACES];
        private final int[] first = new int[MOST_PLACES];
        // By square: the letter that all fillings found so far have there; 0: there is none.
        private final int[] common = new int[MOST_SQUARES];
        private int found;
        private int mostValue;

        private void run(Sheet sheet, Paper paper) {
            grid.copy(paper);
            found = 0;
            mostValue = 0;
            fill(sheet, 0);
        }

        private void fill(Sheet sheet, int p) {
            if (p >= sheet.placeCount) {
                record();
                return;
            }
            int before = sheet.codeOf(grid, p);
            int words = sheet.agreeing(grid, p);
            for (int w = 0; w < sheet.wordCount; w++) {
                if ((words >> w & 1) != 0) {
                    chosen[p] = w;
                    sheet.put(grid, p, sheet.wordCode[w]);
                    if (canGoOn(sheet, p + 1)) {
                        fill(sheet, p + 1);
                    }
                }
            }
            sheet.put(grid, p, before);
        }

        // Without this look ahead most of the search would end only at the last places.
        private boolean canGoOn(Sheet sheet, int from) {
            for (int p = from; p < sheet.placeCount; p++) {
                if (sheet.agreeing(grid, p) == 0) {
                    return false;
                }
            }
            return true;
        }

        private void record() {
            int value = 0;
            for (int x = 0; x < MOST_SQUARES; x++) {
                int letter = grid.letter[x];
                value += letter;
                if (found == 0) {
                    common[x] = letter;
                } else if (common[x] != letter) {
                    common[x] = 0;
                }
            }
            if (found == 0) {
                System.arraycopy(chosen, 0, first, 0, MOST_PLACES);
            }
            if (value > mostValue) {
                mostValue = value;
            }
            found++;
        }
    }
}
