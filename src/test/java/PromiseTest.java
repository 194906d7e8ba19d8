/** The promises 1 to 30 one by one, with answers worked out by hand. */
public final class PromiseTest {
    private static final int BAD = Check.BAD, NO = Check.NO, FULL = Check.FULL, NONE = Check.NONE;
    private static final int LOW = Integer.MIN_VALUE, HIGH = Integer.MAX_VALUE;

    // 0 1 2 / 3 # 5 / 6 7 8: places 0 (0 1 2), 1 (6 7 8), 2 (0 3 6), 3 (2 5 8)
    private static final String RING = "g3,3;b4;waba;wbab;s0,0,0;s1,1,1;";
    // Places of a grid of two by two: 0 (0 1), 1 (2 3), 2 (0 2), 3 (1 3)
    private static final String SMALL = "g2,2;wab;wcd;";

    public static void main(String[] args) {
        newObject();
        writing();
        wiping();
        faultsOfGrids();
        faultsOfSquares();
        faultsOfWords();
        faultsOfSolvers();
        laying();
        layingAnew();
        layingOthersAhead();
        squares();
        places();
        words();
        solvers();
        lateAndLadies();
        evenings();
        orderOfPrinting();
        setting();
        striking();
        wanting();
        undoing();
        undoingAtMostEight();
        undoingLettersOfEight();
        behind();
        fillings();
        must();
        best();
        dead();
        counts();
        winning();
        sent();
        forgetting();
        wants();
        letters();
        lettersOfLadies();
        chance();
        weeks();
        keeping();
        goingBack();
        counting();
        Check.finish();
    }

    private static void due(String call, long got, long want) {
        Check.due(call, got, want);
    }

    private static EveningCrossword laid(String text) {
        return Check.laid(text);
    }

    private static void newObject() {
        EveningCrossword x = new EveningCrossword();
        int[] want = {12, 3, 6, 7, 6, 1, 0, 0, 0, 0};
        for (int what = 0; what < want.length; what++) {
            due("1: count(" + what + ")", x.count(what), want[what]);
        }
        due("1: fault()", x.fault(), NONE);
        due("1: lay() of the empty text", x.lay(), NO);
        due("1: square(0)", x.square(0), 6);
        due("1: square(5)", x.square(5), NONE);
        int[][] solvers = {{0, 0, 2}, {1, 0, 3}, {2, 1, 4}, {3, 2, 6}, {4, 0, 3}, {0, 3, 1}};
        for (int s = 0; s < solvers.length; s++) {
            for (int what = 0; what < 3; what++) {
                due("1: solver(" + s + ", " + what + ")", x.solver(s, what), solvers[s][what]);
            }
        }
        String[] list = {"ace", "bad", "fade", "cafe", "de", "abe", "fed"};
        for (int w = 0; w < list.length; w++) {
            due("1: word(" + w + ", -1)", x.word(w, -1), list[w].length());
            for (int k = 0; k < list[w].length(); k++) {
                due("1: word(" + w + ", " + k + ")", x.word(w, k), list[w].charAt(k) - 'a' + 1);
            }
        }
    }

    private static void writing() {
        EveningCrossword x = new EveningCrossword();
        due("2: write(31)", x.write(31), BAD);
        due("2: write(127)", x.write(127), BAD);
        due("2: write(LOW)", x.write(LOW), BAD);
        due("2: write(HIGH)", x.write(HIGH), BAD);
        due("2: count(9) behind BAD", x.count(9), 0);
        due("2: write(32)", x.write(32), 1);
        due("2: write(126)", x.write(126), 2);
        for (int i = 3; i <= 200; i++) {
            due("2: write('g')", x.write('g'), i);
        }
        due("2: write('g') behind 200", x.write('g'), FULL);
        due("2: write(31) behind 200", x.write(31), BAD);
        due("2: count(9) behind 200", x.count(9), 200);
        due("2: fault()", x.fault(), 0);
    }

    private static void wiping() {
        EveningCrossword x = new EveningCrossword();
        due("3: wipe() of nothing", x.wipe(), 0);
        Check.writeAll(x, "x1");
        due("3: wipe()", x.wipe(), 2);
        due("3: count(9)", x.count(9), 0);
        due("3: wipe() once more", x.wipe(), 0);
        Check.writeAll(x, "wab;");
        due("3: fault() of what is written anew", x.fault(), NONE);
        due("3: count(3): the sheet stays", x.count(3), 7);
    }

    private static void faultIs(String text, int want) {
        EveningCrossword x = new EveningCrossword();
        Check.writeAll(x, text);
        due("4: fault() of " + text, x.fault(), want);
        due("4: count(9) of " + text, x.count(9), text.length());
        due("4: count(0): the sheet stays", x.count(0), 12);
        due("4: count(3): the sheet stays", x.count(3), 7);
    }

    private static void faultsOfGrids() {
        faultIs("", NONE);
        faultIs("g3,4;", NONE);
        faultIs("g2,2;", NONE);
        faultIs("g4,4;", NONE);
        faultIs("g03,04;", NONE);
        faultIs("g3,4", 0);
        faultIs("g003,4;", 0);
        faultIs("g1,4;", 0);
        faultIs("g5,4;", 0);
        faultIs("g2,1;", 0);
        faultIs("g2,5;", 0);
        faultIs("g3;", 0);
        faultIs("g3,;", 0);
        faultIs("g,3;", 0);
        faultIs("g3,4,2;", 0);
        faultIs("g3.4;", 0);
        faultIs("g3, 4;", 0);
        faultIs("G3,4;", 0);
        faultIs(";", 0);
        faultIs(" ", 0);
        faultIs("x;", 0);
        faultIs("g3,4;;", 5);
        faultIs("g3,4; ", 5);
        faultIs("g2,2;g4,4;b15;", NONE);
        faultIs("g4,4;g2,2;b15;", 10);
        faultIs("g4,4;g4,5;", 5);
        faultIs("b5;g3,4;", 3);
        faultIs("wab;g2,2;", 4);
        faultIs("g2,2;l0a;g2,2;", 9);
    }

    private static void faultsOfSquares() {
        faultIs("b0;b11;", NONE);
        faultIs("b5;b5;b05;", NONE);
        faultIs("b12;", 0);
        faultIs("b0;b12;", 3);
        faultIs("g2,2;b4;", 5);
        faultIs("g4,4;b15;", NONE);
        faultIs("g4,4;b16;", 5);
        faultIs("b;", 0);
        faultIs("b005;", 0);
        faultIs("b-1;", 0);
        faultIs("b1a;", 0);
        faultIs("b1", 0);
        faultIs("l0a;l11f;l00b;", NONE);
        faultIs("b5;l5a;", NONE);
        faultIs("l5a;b5;", NONE);
        faultIs("l12a;", 0);
        faultIs("g2,2;l3a;l4a;", 9);
        faultIs("l0g;", 0);
        faultIs("l0A;", 0);
        faultIs("l0`;", 0);
        faultIs("l0;", 0);
        faultIs("la;", 0);
        faultIs("l0,a;", 0);
        faultIs("l0ab;", 0);
        faultIs("l000a;", 0);
        faultIs("l0a", 0);
    }

    private static void faultsOfWords() {
        faultIs("wab;wabc;wabcd;wfe;", NONE);
        faultIs("w;", 0);
        faultIs("wa;", 0);
        faultIs("wabcde;", 0);
        faultIs("wabcdef;", 0);
        faultIs("wag;", 0);
        faultIs("wAb;", 0);
        faultIs("wa b;", 0);
        faultIs("wab", 0);
        faultIs("wab;wba;wab;", 8);
        faultIs("waa;waaa;waaaa;waaa;", 15);
        String nine = "waa;wab;wac;wad;wae;waf;wba;wbb;wbc;";
        faultIs(nine, NONE);
        faultIs(nine + "l0a;", NONE);
        faultIs(nine + "wbd;", 36);
    }

    private static void faultsOfSolvers() {
        faultIs("s0,0,0;", 0);
        faultIs("wab;s0,0,0;s4,7,0;s04,07,00;", NONE);
        faultIs("wab;s0,0,1;", 4);
        faultIs("wab;s0,0,1;wba;", 4);
        faultIs("wab;wba;s0,0,1;", NONE);
        faultIs("wab;s5,0,0;", 4);
        faultIs("wab;s0,8,0;", 4);
        faultIs("wab;s0,0;", 4);
        faultIs("wab;s0,0,;", 4);
        faultIs("wab;s0,0,0,0;", 4);
        faultIs("wab;s,0,0;", 4);
        faultIs("wab;s0;0,0;", 4);
        faultIs("wab;s0,0;0;", 4);
        faultIs("wab;s0,0,0", 4);
        faultIs("wab;s000,0,0;", 4);
        String six = "wab;s0,0,0;s0,0,0;s1,0,0;s2,0,0;s3,0,0;s4,0,0;";
        faultIs(six, NONE);
        faultIs(six + "wba;", NONE);
        faultIs(six + "s0,0,0;", 46);
    }

    private static void laying() {
        EveningCrossword x = new EveningCrossword();
        Check.writeAll(x, "g2,2;");
        due("5: lay() without a word", x.lay(), NO);
        due("5: count(0) behind NO", x.count(0), 12);
        Check.writeAll(x, "wab;s0,0,9;");
        due("5: lay() with a fault", x.lay(), NO);
        due("5: count(3) behind NO", x.count(3), 7);
        due("5: solver(5, 2) behind NO", x.solver(5, 2), 1);
        x.wipe();
        Check.writeAll(x, "wab;");
        due("5: lay() without g", x.lay(), 7);
        due("5: count(0)", x.count(0), 12);
        due("5: count(1)", x.count(1), 3);
        due("5: count(3)", x.count(3), 1);
        due("5: count(4)", x.count(4), 0);
        due("5: count(5)", x.count(5), 0);
        due("5: count(9): the text stays", x.count(9), 4);
        due("5: square(5) is black no more", x.square(5), 0);
        due("5: lay() once more", x.lay(), 7);
        x = laid("g4,4;g2,3;wab;l0a;l0b;l1c;l5d;b1;l1e;b4;");
        due("5: the last g", x.count(0), 6);
        due("5: rows", x.count(1), 2);
        due("5: the last letter", x.square(0), 2);
        due("5: a letter told ahead of b", x.square(1), NONE);
        due("5: letters that stand", x.count(5), 2);
        due("5: another square", x.square(5), 4);
        due("5: a black one", x.square(4), NONE);
    }

    private static void layingAnew() {
        EveningCrossword x = laid(RING);
        x.sent(0, true);
        x.keep();
        x.evening();
        due("5: count(6) ahead", x.count(6), 1);
        due("5: count(7) ahead", x.count(7), 1);
        due("5: count(8) ahead", x.count(8), 1);
        x.write('x');
        due("5: lay() with a fault", x.lay(), NO);
        due("5: count(5) behind NO", x.count(5), 6);
        due("5: count(6) behind NO", x.count(6), 1);
        due("5: count(7) behind NO", x.count(7), 1);
        due("5: count(8) behind NO", x.count(8), 1);
        x.wipe();
        Check.writeAll(x, RING);
        due("5: lay() anew", x.lay(), 4);
        due("5: count(5) behind", x.count(5), 0);
        due("5: count(6) behind", x.count(6), 0);
        due("5: undo() behind", x.undo(), NO);
        due("5: back() behind", x.back(), NO);
    }

    private static void layingOthersAhead() {
        EveningCrossword x = new EveningCrossword();
        String[] texts = {"g4,4;b0;b15;wabcd;wab;l1a;l14f;s4,7,1;s3,6,0;", "g4,4;b0;wabc;wcd;l2b;s1,3,0;", "wef;"};
        for (String text : texts) {
            x.wipe();
            Check.writeAll(x, text);
            due("5: lay() of " + text, x.lay(), text.length() > 4 ? 8 : 7);
        }
        due("5: count(5): letters told ahead are gone", x.count(5), 0);
        due("5: count(3): words told ahead are gone", x.count(3), 1);
        due("5: count(4): solvers told ahead are gone", x.count(4), 0);
        due("5: square(0): black ones told ahead are gone", x.square(0), 0);
        due("5: place(0, 4)", x.place(0, 4), 0);
        due("5: dead()", x.dead(), 127);
    }

    private static void squares() {
        EveningCrossword x = laid("g2,3;b1;wab;l0a;l2f;l1b;");
        due("6: square(0)", x.square(0), 1);
        due("6: square(1)", x.square(1), NONE);
        due("6: square(2)", x.square(2), 6);
        due("6: square(3)", x.square(3), 0);
        due("6: square(5)", x.square(5), 0);
        due("6: square(6)", x.square(6), BAD);
        due("6: square(-1)", x.square(-1), BAD);
        due("6: square(LOW)", x.square(LOW), BAD);
        due("6: square(HIGH)", x.square(HIGH), BAD);
    }

    private static void placeIs(EveningCrossword x, int p, int... want) {
        for (int what = 0; what < want.length; what++) {
            due("7: place(" + p + ", " + what + ")", x.place(p, what), want[what]);
        }
    }

    private static void places() {
        EveningCrossword x = laid("g3,3;b4;waba;wbab;wab;wbaa;l0b;l1a;l2a;l3b;");
        placeIs(x, 0, 0, 3, 0, 1, 0);
        placeIs(x, 1, 6, 3, 0, 0, 11);
        placeIs(x, 2, 0, 3, 1, 0, 0);
        placeIs(x, 3, 2, 3, 1, 0, 1);
        due("7: place(4, 0)", x.place(4, 0), BAD);
        due("7: place(-1, 0)", x.place(-1, 0), BAD);
        due("7: place(0, -1)", x.place(0, -1), BAD);
        due("7: place(0, 5)", x.place(0, 5), BAD);
        due("7: place(LOW, HIGH)", x.place(LOW, HIGH), BAD);
        // # 1 2 3 / 4 5 # 7 / 8 # 10 11: two squares in a row are a place, one is none
        x = laid("g3,4;b0;b6;b9;wab;");
        int[][] want = {{1, 3, 0}, {4, 2, 0}, {10, 2, 0}, {4, 2, 1}, {1, 2, 1}, {3, 3, 1}};
        due("7: count(2)", x.count(2), want.length);
        for (int p = 0; p < want.length; p++) {
            placeIs(x, p, want[p]);
        }
        due("7: all places of four by four", laid("g4,4;wab;").count(2), 8);
        due("7: no place", laid("g2,2;b0;b1;b2;b3;wab;").count(2), 0);
    }

    private static void words() {
        EveningCrossword x = laid("wab;wfedc;");
        due("8: word(0, -1)", x.word(0, -1), 2);
        due("8: word(1, -1)", x.word(1, -1), 4);
        due("8: word(0, 1)", x.word(0, 1), 2);
        due("8: word(0, 2)", x.word(0, 2), NONE);
        due("8: word(0, HIGH)", x.word(0, HIGH), NONE);
        due("8: word(1, 0)", x.word(1, 0), 6);
        due("8: word(1, 3)", x.word(1, 3), 3);
        due("8: word(1, 4)", x.word(1, 4), NONE);
        due("8: word(1, -2)", x.word(1, -2), BAD);
        due("8: word(2, 0)", x.word(2, 0), BAD);
        due("8: word(-1, 0)", x.word(-1, 0), BAD);
        due("8: word(2, 9)", x.word(2, 9), BAD);
    }

    private static void amountsAre(String promise, EveningCrossword x, int... want) {
        for (int s = 0; s < want.length; s++) {
            due(promise + ": solver(" + s + ", 3)", x.solver(s, 3), want[s]);
        }
    }

    private static void solvers() {
        EveningCrossword x = laid("g2,4;wabea;wcdcd;s0,0,0;s1,0,0;s2,0,0;s3,0,0;s4,0,0;s4,1,0;");
        amountsAre("9", x, 1, 2, 4, 3, 5, 1);
        due("9: solver(5, 0)", x.solver(5, 0), 4);
        due("9: solver(5, 1)", x.solver(5, 1), 1);
        due("9: solver(1, 2)", x.solver(1, 2), 0);
        due("9: solver(6, 0)", x.solver(6, 0), BAD);
        due("9: solver(-1, 0)", x.solver(-1, 0), BAD);
        due("9: solver(0, -1)", x.solver(0, -1), BAD);
        due("9: solver(0, 4)", x.solver(0, 4), BAD);
        x.want(2, 0, 1);
        amountsAre("9, no vowel", x, 1, 2, 1, 3, 4, 1);
        x.want(1, 2, 0);
        amountsAre("9, too long", x, 1, 0, 1, 3, 3, 1);
        x.want(0, 6, 0);
        amountsAre("9, no such place", x, 0, 0, 1, 3, 2, 1);
        due("9: solver(0, 1)", x.solver(0, 1), 6);
        due("9: no solver", laid("wab;").solver(0, 0), BAD);
    }

    private static void lateAndLadies() {
        EveningCrossword x = laid(SMALL + "s3,1,0;s4,1,0;s0,1,0;s4,1,0;s4,1,1;");
        amountsAre("9, a lady at the second place", x, 0, 1, 1, 3, 1);
        x.set(0, 1);
        amountsAre("9, the first place full", x, 3, 2, 1, 4, 1);
        x.strike(2);
        amountsAre("9, struck out", x, 0, 1, 1, 3, 1);
        // Place 0 can be filled no more, but it is not full.
        x = laid(SMALL + "l0f;s3,1,0;");
        amountsAre("9, the first place dead", x, 0);
    }

    private static void squaresAre(String promise, EveningCrossword x, int... want) {
        for (int i = 0; i < want.length; i++) {
            due(promise + ": square(" + i + ")", x.square(i), want[i]);
        }
    }

    private static void evenings() {
        EveningCrossword x = laid(RING);
        due("10: evening()", x.evening(), 2);
        squaresAre("10", x, 1, 2, 1, 0, NONE, 0, 2, 1, 2);
        due("10: count(7)", x.count(7), 1);
        due("10: evening() once more", x.evening(), 0);
        due("10: count(7) once more", x.count(7), 2);
        due("10: evening() without solvers", laid(SMALL).evening(), 0);
        x = laid(SMALL + "s0,0,0;s0,0,0;");
        x.sent(0, true);
        due("10: one word of two solvers", x.evening(), 1);
        due("10: count(6): what is told stays", x.count(6), 1);
    }

    private static void orderOfPrinting() {
        EveningCrossword x = laid(SMALL + "s0,2,1;s0,0,0;");
        due("10: the lowest place first", x.evening(), 1);
        squaresAre("10, the lowest place", x, 1, 2, 0, 0);
        x = laid(SMALL + "s0,0,1;s0,0,0;");
        due("10: the lowest word first", x.evening(), 1);
        squaresAre("10, the lowest word", x, 1, 2, 0, 0);
        x = laid(SMALL + "s0,0,0;s1,2,1;");
        due("10: most counts first", x.evening(), 1);
        squaresAre("10, most counts", x, 3, 0, 4, 0);
        x = laid(SMALL + "s0,0,0;s0,0,1;s0,0,1;");
        due("10: counts of several together", x.evening(), 1);
        squaresAre("10, several together", x, 3, 4, 0, 0);
        x = laid("g2,2;wab;wac;s0,0,0;s0,2,1;");
        due("10: what fits by then", x.evening(), 2);
        squaresAre("10, fits by then", x, 1, 2, 3, 0);
        x = laid("g2,2;wab;wcd;wac;s0,2,2;s1,0,0;s1,1,1;");
        due("10: a place that is full by then", x.evening(), 2);
        squaresAre("10, full by then", x, 1, 2, 3, 4);
    }

    private static void setting() {
        EveningCrossword x = new EveningCrossword();
        due("11: set(6, 0)", x.set(6, 0), BAD);
        due("11: set(-1, 0)", x.set(-1, 0), BAD);
        due("11: set(0, 7)", x.set(0, 7), BAD);
        due("11: set(0, -1)", x.set(0, -1), BAD);
        due("11: set(0, 3), other letters", x.set(0, 3), NO);
        due("11: set(1, 0), too long", x.set(1, 0), NO);
        due("11: count(7) behind NO", x.count(7), 0);
        due("11: set(0, 2)", x.set(0, 2), 3);
        squaresAre("11", x, 6, 1, 4, 5, 0, NONE, 0);
        due("11: set(0, 2) in a full place", x.set(0, 2), NO);
        due("11: set(1, 4)", x.set(1, 4), 2);
        due("11: count(5)", x.count(5), 6);
        due("11: count(7)", x.count(7), 2);
    }

    private static void striking() {
        EveningCrossword x = new EveningCrossword();
        due("12: strike(6)", x.strike(6), BAD);
        due("12: strike(-1)", x.strike(-1), BAD);
        due("12: strike(1), empty", x.strike(1), NO);
        due("12: count(7) behind NO", x.count(7), 0);
        x.set(0, 2);
        due("12: strike(3), a letter of another place", x.strike(3), 1);
        squaresAre("12", x, 0, 1, 4, 5);
        due("12: strike(0)", x.strike(0), 3);
        due("12: strike(0) once more", x.strike(0), NO);
        due("12: count(5)", x.count(5), 0);
        due("12: count(7)", x.count(7), 3);
    }

    private static void wanting() {
        EveningCrossword x = new EveningCrossword();
        due("13: want(0, 7, 6)", x.want(0, 7, 6), 2);
        due("13: solver(0, 0)", x.solver(0, 0), 0);
        due("13: solver(0, 1)", x.solver(0, 1), 7);
        due("13: solver(0, 2)", x.solver(0, 2), 6);
        due("13: solver(0, 3)", x.solver(0, 3), 0);
        due("13: want(0, 7, 6), the same", x.want(0, 7, 6), 6);
        due("13: count(7)", x.count(7), 2);
        due("13: want(6, 0, 0)", x.want(6, 0, 0), BAD);
        due("13: want(-1, 0, 0)", x.want(-1, 0, 0), BAD);
        due("13: want(0, 8, 0)", x.want(0, 8, 0), BAD);
        due("13: want(0, -1, 0)", x.want(0, -1, 0), BAD);
        due("13: want(0, 0, 7)", x.want(0, 0, 7), BAD);
        due("13: want(0, 0, -1)", x.want(0, 0, -1), BAD);
        due("13: solver(0, 1) behind BAD", x.solver(0, 1), 7);
        due("13: count(7) behind BAD", x.count(7), 2);
    }

    private static void undoing() {
        EveningCrossword x = laid(RING);
        due("14: undo() of nothing", x.undo(), NO);
        x.evening();
        x.strike(0);
        x.want(1, 0, 0);
        x.set(0, 0);
        due("14: undo() of set", x.undo(), 3);
        due("14: count(5)", x.count(5), 3);
        due("14: solver(1, 2)", x.solver(1, 2), 0);
        due("14: undo() of want", x.undo(), 2);
        due("14: solver(1, 1)", x.solver(1, 1), 1);
        due("14: solver(1, 2)", x.solver(1, 2), 1);
        due("14: undo() of strike", x.undo(), 1);
        squaresAre("14", x, 1, 2, 1, 0, NONE, 0, 2, 1, 2);
        due("14: undo() of evening", x.undo(), 0);
        due("14: count(5) at last", x.count(5), 0);
        due("14: undo() of no more", x.undo(), NO);
    }

    private static void undoingAtMostEight() {
        EveningCrossword x = new EveningCrossword();
        int[] word = {0, 1, 2, 3, 4, 5, 6, 0, 1, 2};
        for (int i = 0; i < word.length; i++) {
            x.want(0, i % 8, word[i]);
        }
        due("14: count(7) of ten", x.count(7), 8);
        for (int left = 7; left >= 0; left--) {
            due("14: undo()", x.undo(), left);
            due("14: solver(0, 1)", x.solver(0, 1), (left + 1) % 8);
            due("14: solver(0, 2)", x.solver(0, 2), word[left + 1]);
        }
        due("14: undo() of the ninth", x.undo(), NO);
        due("14: solver(0, 2) behind NO", x.solver(0, 2), 1);
    }

    private static void undoingLettersOfEight() {
        EveningCrossword x = laid("g2,2;wab;wac;");
        x.set(0, 0);
        for (int i = 0; i < 5; i++) {
            x.strike(0);
            x.set(0, i % 2);
        }
        due("14: count(7) of eleven", x.count(7), 8);
        int[] second = {0, 3, 0, 2, 0, 3, 0, 2};
        for (int left = 7; left >= 0; left--) {
            due("14: undo()", x.undo(), left);
            due("14: square(1)", x.square(1), second[7 - left]);
        }
    }

    private static void behind() {
        EveningCrossword x = laid("g2,3;b5;wab;wcd;wabc;s3,0,2;s3,1,1;");
        int[][] want = {{0, 0, 0, 0, 0, NONE}, {1, 2, 3, 0, 0, NONE}, {1, 2, 3, 3, 4, NONE}};
        for (int i = 0; i < 6; i++) {
            for (int n = 0; n <= 20; n++) {
                due("15: behind(" + n + ", " + i + ")", x.behind(n, i), want[n < 2 ? n : 2][i]);
            }
        }
        due("15: behind(-1, 0)", x.behind(-1, 0), BAD);
        due("15: behind(21, 0)", x.behind(21, 0), BAD);
        due("15: behind(0, 6)", x.behind(0, 6), BAD);
        due("15: behind(0, -1)", x.behind(0, -1), BAD);
        due("15: count(5): nothing changes", x.count(5), 0);
        due("15: count(7): nothing changes", x.count(7), 0);
    }

    private static void fillingsAre(String text, int... want) {
        EveningCrossword x = laid(text);
        for (int p = -1; p + 1 < want.length; p++) {
            due("16: fillings(" + p + ") of " + text, x.fillings(p), want[p + 1]);
        }
        due("16: fillings() of no place of " + text, x.fillings(want.length - 1), BAD);
        due("16: fillings(-2) of " + text, x.fillings(-2), BAD);
    }

    private static void fillings() {
        fillingsAre(RING, 2, 0, 0, 0, 0);
        fillingsAre(RING + "l6b;", 1, 1, 1, 1, 1);
        fillingsAre(RING + "l0a;l2b;", 0, NONE, NONE, NONE, NONE);
        fillingsAre("g2,2;waa;wab;wba;wbb;", 16, 0, 0, 0, 0);
        fillingsAre("g2,2;waa;wab;wba;wbb;l3b;", 8, 0, 1, 0, 1);
        fillingsAre("g2,2;wbb;wba;wab;waa;l3b;", 8, 0, 0, 0, 0);
        fillingsAre("g2,2;wab;wba;l0a;l1b;", 1, 0, 1, 0, 1);
        fillingsAre("g2,2;wab;wba;l0a;l1a;", 0, NONE, NONE, NONE, NONE);
        fillingsAre("g2,2;b0;b3;wab;", 1);
        fillingsAre("g2,3;b1;b4;waa;wab;wbb;", 9, 0, 0);
        // Eight squares, six places of two, all words of three letters: 3 to the eighth.
        fillingsAre("g3,4;b2;b5;b8;b11;waa;wab;wac;wba;wbb;wbc;wca;wcb;wcc;", 6561, 0, 0, 0, 0, 0, 0);
        EveningCrossword x = laid(RING);
        x.fillings(-1);
        due("16: count(5): nothing changes", x.count(5), 0);
    }

    private static void mustBe(EveningCrossword x, int... want) {
        for (int i = 0; i < want.length; i++) {
            due("17: must(" + i + ")", x.must(i), want[i]);
        }
    }

    private static void must() {
        EveningCrossword x = laid("g2,2;wab;wba;");
        mustBe(x, NONE, NONE, NONE, NONE);
        x.set(0, 0);
        mustBe(x, 1, 2, 2, 1);
        due("17: must(4)", x.must(4), BAD);
        due("17: must(-1)", x.must(-1), BAD);
        x.strike(0);
        mustBe(x, NONE, NONE, NONE, NONE);
        x.set(0, 0);
        mustBe(x, 1, 2, 2, 1);
        x.set(1, 0);
        mustBe(x, NONE, NONE, NONE, NONE);
        mustBe(laid(RING + "l0a;l2b;"), NONE, NONE, NONE, NONE, NONE, NONE, NONE, NONE, NONE);
        mustBe(laid("g2,2;waa;wab;l0a;"), 1, 1, 1, NONE);
        // 0 # 2 / # 4 5: square 0 is in no place
        mustBe(laid("g2,3;b1;b3;wab;wfb;l0c;"), 3, NONE, NONE, NONE, NONE, 2);
        mustBe(laid("g2,3;b1;b3;wab;wfb;"), NONE, NONE, NONE, NONE, NONE, 2);
    }

    private static void best() {
        due("18: of all", laid("g2,2;waa;wab;wba;wbb;").best(), 8);
        due("18: a letter stands", laid("g2,2;waa;wab;wba;wbb;l0a;").best(), 7);
        due("18: a square in no place", laid("g2,3;b1;b3;wab;wff;l0c;").best(), 21);
        due("18: an empty square in no place", laid("g2,3;b1;b3;wab;wff;").best(), 18);
        due("18: of one", laid("g2,3;b1;b3;wab;wff;l4a;").best(), 4);
        due("18: no filling", laid(RING + "l0a;l2b;").best(), NONE);
        due("18: no place", laid("g2,2;b0;b3;wab;").best(), 0);
    }

    private static void dead() {
        EveningCrossword x = laid(RING);
        due("19: none", x.dead(), 0);
        x.evening();
        due("19: two", x.dead(), 12);
        due("19: too long", laid("g2,3;wabc;").dead(), 28);
        due("19: the first", laid("g2,3;b4;b5;wabc;wde;l1d;").dead(), 1);
        due("19: a full place is not", laid("g2,2;wab;l0c;l1c;").dead(), 12);
        due("19: no place", laid("g2,2;b0;b3;wab;").dead(), 0);
    }

    private static void counts() {
        EveningCrossword x = laid("g2,2;wab;wcd;wac;s0,2,2;s1,0,0;s1,1,1;s4,0,0;s0,7,0;");
        due("20: counts(0, 0, 0)", x.counts(0, 0, 0), 4);
        due("20: counts(0, 0, 1)", x.counts(0, 0, 1), 1);
        due("20: counts(1, 1, 0)", x.counts(1, 1, 0), 2);
        due("20: counts(1, 1, 1)", x.counts(1, 1, 1), 1);
        due("20: counts(2, 2, 0)", x.counts(2, 2, 0), 1);
        due("20: counts(2, 2, 1)", x.counts(2, 2, 1), 0);
        due("20: counts(3, 0, 0)", x.counts(3, 0, 0), 0);
        due("20: counts(3, 0, 1)", x.counts(3, 0, 1), 0);
        due("20: counts(4, 0, 0)", x.counts(4, 0, 0), BAD);
        due("20: counts(7, 0, 0)", x.counts(7, 0, 0), BAD);
        due("20: counts(-1, 0, 0)", x.counts(-1, 0, 0), BAD);
        due("20: counts(0, 3, 0)", x.counts(0, 3, 0), BAD);
        due("20: counts(0, -1, 0)", x.counts(0, -1, 0), BAD);
        due("20: counts(0, 0, 2)", x.counts(0, 0, 2), BAD);
        due("20: counts(0, 0, -1)", x.counts(0, 0, -1), BAD);
        due("20: count(5): nothing changes", x.count(5), 0);
        x.evening();
        due("20: counts(0, 0, 0) in a full place", x.counts(0, 0, 0), 0);
        due("20: counts(0, 0, 1) in a full place", x.counts(0, 0, 1), 0);
    }

    private static void winning() {
        EveningCrossword x = laid(SMALL + "s0,2,1;s0,0,0;");
        due("21: win(0, 0), printed as it is", x.win(0, 0), 0);
        due("21: win(2, 1)", x.win(2, 1), 2);
        due("21: win(0, 1)", x.win(0, 1), 2);
        due("21: win(1, 0)", x.win(1, 0), 1);
        due("21: win(4, 0)", x.win(4, 0), BAD);
        due("21: win(-1, 0)", x.win(-1, 0), BAD);
        due("21: win(0, 2)", x.win(0, 2), BAD);
        due("21: win(0, -1)", x.win(0, -1), BAD);
        due("21: solver(1, 1): nothing changes", x.solver(1, 1), 0);
        due("21: count(7): nothing changes", x.count(7), 0);
        x.set(0, 0);
        due("21: win(0, 0) in a full place", x.win(0, 0), NONE);
        due("21: two of four", laid("g2,2;wcd;wab;s1,0,0;s1,0,0;s0,1,1;s0,1,1;").win(0, 1), 3);
        // Six count 5 each for aaaa, but 1 each for bcbc; of like counts the lowest word comes first.
        String vowels = "s2,0,WORD;".repeat(6);
        due("21: all six", laid("g2,4;waaaa;wbcbc;" + vowels.replace("WORD", "0")).win(0, 1), 63);
        due("21: five of six", laid("g2,4;wbcbc;waaaa;" + vowels.replace("WORD", "1")).win(0, 0), 31);
        due("21: a lady rather than two", laid("g2,2;wcd;wab;s0,0,0;s0,0,0;s3,3,1;").win(0, 1), 4);
        due("21: a lady at the second place", laid(SMALL + "s3,0,0;").win(1, 0), NONE);
        due("21: too long", laid("g2,3;wabc;s0,0,0;").win(2, 0), NONE);
        due("21: no solver", laid(SMALL).win(0, 0), NONE);
    }

    private static void sent() {
        EveningCrossword x = new EveningCrossword();
        due("22: sent(6, true)", x.sent(6, true), BAD);
        due("22: sent(-1, true)", x.sent(-1, true), BAD);
        due("22: count(6) behind BAD", x.count(6), 0);
        for (int i = 1; i <= 6; i++) {
            due("22: sent(5, ..)", x.sent(5, i % 2 == 0), i);
        }
        due("22: sent(0, true) behind six", x.sent(0, true), FULL);
        due("22: sent(6, true) behind six", x.sent(6, true), BAD);
        due("22: count(6) behind FULL", x.count(6), 6);
        due("22: wants(0) behind FULL", x.wants(0), 127);
        due("22: no solver", laid("wab;").sent(0, true), BAD);
    }

    private static void forgetting() {
        EveningCrossword x = new EveningCrossword();
        due("23: forget() of nothing", x.forget(), 0);
        x.sent(0, false);
        x.sent(0, true);
        due("23: wants(0) ahead", x.wants(0), 0);
        due("23: forget()", x.forget(), 2);
        due("23: count(6)", x.count(6), 0);
        due("23: wants(0) behind", x.wants(0), 127);
        due("23: sent(1, true)", x.sent(1, true), 1);
    }

    private static void wants() {
        EveningCrossword x = new EveningCrossword();
        due("24: wants(6)", x.wants(6), BAD);
        due("24: wants(-1)", x.wants(-1), BAD);
        x.sent(5, true);
        due("24: wants(5), column f..", x.wants(5), 64);
        due("24: wants(0), told of another", x.wants(0), 127);
        x.sent(5, true);
        due("24: wants(5), told once more", x.wants(5), 64);
        x.sent(5, false);
        due("24: wants(5), told otherwise", x.wants(5), 0);
        x.forget();
        x.want(0, 7, 2);
        x.sent(0, false);
        due("24: wants(0), no such place", x.wants(0), 127);
        x.sent(0, true);
        due("24: wants(0), no such place, sent", x.wants(0), 0);
        due("24: solver(0, 2): nothing changes", x.solver(0, 2), 2);
        x = laid(SMALL + "s3,1,0;");
        x.sent(0, true);
        due("24: wants(0), a lady at the second place", x.wants(0), 0);
        x.set(0, 0);
        due("24: wants(0), a lady at the first open place", x.wants(0), 3);
    }

    private static void lettersAre(EveningCrossword x, int... want) {
        for (int i = 0; i < want.length; i++) {
            due("25: letters(" + i + ")", x.letters(i), want[i]);
        }
    }

    private static void letters() {
        EveningCrossword x = laid("g2,3;b5;wab;wabc;s0,0,1;s0,1,0;");
        lettersAre(x, 127, 127, 127, 127, 127, NO);
        due("25: letters(6)", x.letters(6), BAD);
        due("25: letters(-1)", x.letters(-1), BAD);
        x.sent(0, true);
        lettersAre(x, 3, 5, 9, 127, 127, NO);
        x.sent(1, false);
        lettersAre(x, 0, 0, 0, 124, 122, NO);
        x.forget();
        x.sent(1, false);
        lettersAre(x, 0, 0, 0, 124, 122, NO);
        x.set(1, 0);
        lettersAre(x, 127, 127, 127, 126, 126, NO);
        due("25: square(3): nothing changes", x.square(3), 1);
    }

    private static void lettersOfLadies() {
        EveningCrossword x = laid("g2,2;wab;wcd;l0a;s3,1,0;");
        x.sent(0, true);
        lettersAre(x, 0, 126, 0, 0);
        x.forget();
        x.sent(0, false);
        lettersAre(x, 127, 1, 127, 127);
    }

    private static void chanceIs(EveningCrossword x, int p, int w, int tenths, int above, int below) {
        String call = "26: chance(" + p + ", " + w + ", " + tenths + ", ";
        due(call + "0)", x.chance(p, w, tenths, 0), above);
        due(call + "1)", x.chance(p, w, tenths, 1), below);
    }

    private static void chance() {
        EveningCrossword x = laid(SMALL + "s0,0,0;s0,0,1;");
        chanceIs(x, 0, 0, 5, 1, 2);
        chanceIs(x, 0, 1, 5, 1, 4);
        chanceIs(x, 0, 0, 3, 3, 10);
        chanceIs(x, 0, 1, 3, 21, 100);
        chanceIs(x, 0, 0, 0, 0, 1);
        chanceIs(x, 0, 0, 10, 1, 1);
        chanceIs(x, 0, 1, 10, 0, 1);
        chanceIs(x, 1, 0, 5, 0, 1);
        due("26: chance(4, 0, 5, 0)", x.chance(4, 0, 5, 0), BAD);
        due("26: chance(-1, 0, 5, 0)", x.chance(-1, 0, 5, 0), BAD);
        due("26: chance(0, 2, 5, 0)", x.chance(0, 2, 5, 0), BAD);
        due("26: chance(0, -1, 5, 0)", x.chance(0, -1, 5, 0), BAD);
        due("26: chance(0, 0, 11, 0)", x.chance(0, 0, 11, 0), BAD);
        due("26: chance(0, 0, -1, 0)", x.chance(0, 0, -1, 0), BAD);
        due("26: chance(0, 0, 5, 2)", x.chance(0, 0, 5, 2), BAD);
        due("26: chance(0, 0, 5, -1)", x.chance(0, 0, 5, -1), BAD);
        due("26: count(5): nothing changes", x.count(5), 0);
        // A late one counts 1 alone, so that the party's word comes ahead of his.
        x = laid(SMALL + "s0,0,0;s4,0,0;s1,0,1;");
        chanceIs(x, 0, 0, 2, 37, 125);
        chanceIs(x, 0, 1, 2, 24, 125);
        // Of six the word is printed unless none sends: 1 - 9/10 to the sixth.
        x = laid(SMALL + "s0,0,0;s0,0,0;s0,0,0;s0,0,0;s0,0,0;s0,0,0;");
        chanceIs(x, 0, 0, 1, 468559, 1000000);
        x.set(0, 0);
        chanceIs(x, 0, 0, 10, 0, 1);
        chanceIs(laid(SMALL), 0, 0, 5, 0, 1);
    }

    private static void weeksAre(EveningCrossword x, int z, int n, int filled, int printed) {
        due("27: weeks(" + z + ", " + n + ", 0)", x.weeks(z, n, 0), filled);
        due("27: weeks(" + z + ", " + n + ", 1)", x.weeks(z, n, 1), printed);
    }

    private static void weeks() {
        // Draws of z 0: 1 (word 0, place 0, struck), 41487 (1, 0, struck), 10299 (1, 0),
        // 37479 (0, 1, struck).
        EveningCrossword x = laid(SMALL + "s0,0,0;");
        weeksAre(x, 0, 1, 1, 1);
        weeksAre(x, 0, 2, 1, 2);
        weeksAre(x, 0, 3, 1, 2);
        weeksAre(x, 0, 4, 4, 3);
        // The draw of z 9999 and k 0 is 51303: word 0, place 801 modulo 5.
        weeksAre(laid("g2,3;wab;wcde;s0,0,1;"), 9999, 1, 0, 0);
        weeksAre(laid("g2,3;wcde;wab;s0,0,1;"), 9999, 1, 1, 1);
        due("27: weeks(-1, 1, 0)", x.weeks(-1, 1, 0), BAD);
        due("27: weeks(10000, 1, 0)", x.weeks(10000, 1, 0), BAD);
        due("27: weeks(0, 0, 0)", x.weeks(0, 0, 0), BAD);
        due("27: weeks(0, 41, 0)", x.weeks(0, 41, 0), BAD);
        due("27: weeks(0, 1, 2)", x.weeks(0, 1, 2), BAD);
        due("27: weeks(0, 1, -1)", x.weeks(0, 1, -1), BAD);
        due("27: count(5): nothing changes", x.count(5), 0);
        due("27: solver(0, 2): nothing changes", x.solver(0, 2), 0);
        due("27: count(7): nothing changes", x.count(7), 0);
        weeksAre(laid("g2,2;wab;s0,0,0;"), 0, 4, 4, 3);
        weeksAre(laid("g2,2;wab;l0a;l1b;"), 0, 40, 1, 0);
        weeksAre(laid("g2,2;b0;b3;wab;s0,0,0;"), 0, 40, 0, 0);
    }

    private static void keeping() {
        EveningCrossword x = laid(RING);
        due("28: keep()", x.keep(), 1);
        due("28: keep() once more", x.keep(), 2);
        due("28: keep() of a third", x.keep(), FULL);
        due("28: count(8)", x.count(8), 2);
        due("28: count(7)", x.count(7), 0);
    }

    private static void goingBack() {
        EveningCrossword x = laid(RING);
        due("29: back() of nothing", x.back(), NO);
        x.evening();
        x.keep();
        x.strike(1);
        x.want(0, 3, 1);
        x.keep();
        due("29: keep() of a third", x.keep(), FULL);
        x.want(1, 2, 0);
        x.strike(0);
        x.sent(0, true);
        due("29: back()", x.back(), 1);
        squaresAre("29", x, 1, 2, 1, 0, NONE, 0, 0, 0, 0);
        due("29: solver(0, 1)", x.solver(0, 1), 3);
        due("29: solver(0, 2)", x.solver(0, 2), 1);
        due("29: solver(1, 1)", x.solver(1, 1), 1);
        due("29: undo() behind", x.undo(), NO);
        due("29: count(6) behind", x.count(6), 1);
        x.strike(0);
        due("29: undo() of what came behind", x.undo(), 0);
        due("29: back() once more", x.back(), 0);
        squaresAre("29, once more", x, 1, 2, 1, 0, NONE, 0, 2, 1, 2);
        due("29: solver(0, 1) once more", x.solver(0, 1), 0);
        x.evening();
        due("29: back() of no more", x.back(), NO);
        due("29: count(7) behind NO", x.count(7), 1);
        due("29: keep() anew", x.keep(), 1);
    }

    private static void counting() {
        EveningCrossword x = laid("g4,2;b0;wab;wba;wabc;l1a;l2b;l0c;s0,0,0;s1,0,1;");
        x.sent(0, true);
        x.sent(1, true);
        x.sent(1, false);
        x.keep();
        x.want(0, 0, 1);
        x.want(0, 0, 2);
        x.write('g');
        int[] want = {8, 4, 5, 3, 2, 2, 3, 2, 1, 48};
        for (int what = 0; what < want.length; what++) {
            due("30: count(" + what + ")", x.count(what), want[what]);
        }
        due("30: count(-1)", x.count(-1), BAD);
        due("30: count(10)", x.count(10), BAD);
        due("30: count(LOW)", x.count(LOW), BAD);
        due("30: count(HIGH)", x.count(HIGH), BAD);
    }
}
