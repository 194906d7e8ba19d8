/** PLACES and FITS, promises 6 to 9: a test for each sentence that names a boundary case. */
public final class SheetBoundaryTest {
    // Places of a grid of two by two: 0 (0 1), 1 (2 3), 2 (0 2), 3 (1 3)
    private static final String SMALL = "g2,2;wab;wcd;";
    private static final String NINE = "g2,2;waa;wab;wac;wad;wae;waf;wba;wbb;wbc;";

    public static void main(String[] args) {
        twoSquaresOrMore();
        betweenBlackOnesAndEdges();
        acrossThenDown();
        eightAtMost();
        asLong();
        eachLetterThatStands();
        someSquareEmpty();
        noneEmpty();
        squaresThereAre();
        lettersOfSquares();
        blackOnes();
        placesThereAre();
        whatOfPlaces();
        fullPlaces();
        wordsThatFit();
        wordsThereAre();
        lettersOfWords();
        solversThereAre();
        whatOfSolvers();
        howMuchHeCounts();
        Check.finish();
    }

    private static void twoSquaresOrMore() {
        String sentence = "PLACES are rows of two SQUARES or more that are not BLACK";
        // 0 # 2 / # 4 # / 6 # 8: no two that touch
        Script.of(sentence + " (of one: none)", "g3,3;b1;b3;b5;b7;wab;").calls("count(2) = 0; place(0, 0) = BAD");
        Script.of(sentence + " (of two)", "g3,3;b2;b3;b5;b6;b7;wab;")
                .calls("count(2) = 2; place(0, 0) = 0; place(0, 1) = 2; place(1, 0) = 1; place(1, 1) = 2; place(1, 2) = 1");
        Script.of(sentence + " (of four)", "g4,4;wab;").calls("place(0, 1) = 4; place(7, 1) = 4");
    }

    private static void betweenBlackOnesAndEdges() {
        String sentence = "between BLACK ones and edges, as long as can be";
        Script.of(sentence + " (an edge and a BLACK one)", "g2,4;b2;wab;")
                .calls("place(0, 0) = 0; place(0, 1) = 2; place(1, 0) = 4; place(1, 1) = 4; count(2) = 5");
        Script.of(sentence + " (a BLACK one and an edge)", "g2,4;b1;wab;").calls("place(0, 0) = 2; place(0, 1) = 2");
        Script.of(sentence + " (two BLACK ones)", "g2,4;b0;b3;wab;").calls("place(0, 0) = 1; place(0, 1) = 2; place(1, 1) = 4; count(2) = 4");
        Script.of(sentence + " (down, two BLACK ones)", "g4,2;b0;b6;wab;")
                .calls("count(2) = 4; place(2, 0) = 2; place(2, 1) = 2; place(2, 2) = 1; place(3, 0) = 1; place(3, 1) = 4");
        // The end of a row and the beginning of the next one do not touch.
        Script.of(sentence + " (a row ends at the edge)", "g2,2;b0;b3;wab;").calls("count(2) = 0");
    }

    private static void acrossThenDown() {
        Script.of("first those across, row by row, then those down, column by column, 0, 1, ..", "g2,3;wab;")
                .calls("place(0, 0) = 0; place(0, 2) = 0; place(1, 0) = 3; place(1, 2) = 0; place(2, 0) = 0; place(2, 2) = 1")
                .calls("place(3, 0) = 1; place(3, 2) = 1; place(4, 0) = 2; place(4, 2) = 1; place(5, 0) = BAD");
        Script.of("first those across .. (none across)", "g3,3;b1;b2;b4;b5;b7;b8;wab;").calls("count(2) = 1; place(0, 2) = 1; place(0, 0) = 0");
        Script.of("then those down .. (none down)", "g2,3;b3;b4;b5;wab;").calls("count(2) = 1; place(0, 2) = 0");
    }

    private static void eightAtMost() {
        Script.of("eight at most", "g4,4;wab;").calls("count(2) = 8; place(7, 0) = 3; place(7, 2) = 1; place(8, 0) = BAD");
        Script.of("eight at most", "g4,4;b5;b10;wab;").calls("count(2) = 8; place(1, 0) = 6; place(2, 0) = 8; place(7, 1) = 4");
    }

    private static void asLong() {
        String sentence = "A WORD FITS a PLACE, if it is as long";
        String words = "wab;wabc;wabcd;";
        Script.of(sentence, "g2,2;" + words).calls("place(0, 4) = 1; place(3, 4) = 1; set(0, 1) = NO; set(0, 2) = NO");
        Script.of(sentence, "g3,3;" + words).calls("place(0, 4) = 2; place(5, 4) = 2; set(0, 0) = NO; set(0, 2) = NO");
        Script.of(sentence, "g4,4;" + words).calls("place(0, 4) = 4; place(7, 4) = 4; set(0, 0) = NO; set(0, 1) = NO");
    }

    private static void eachLetterThatStands() {
        String sentence = "and each letter that stands there is that of the WORD";
        Script.of(sentence + " (none stands)", SMALL).calls("place(0, 4) = 3");
        Script.of(sentence + " (the first)", SMALL + "l0c;").calls("place(0, 4) = 2; place(1, 4) = 3; place(2, 4) = 2");
        Script.of(sentence + " (the last)", SMALL + "l1b;").calls("place(0, 4) = 1; place(3, 4) = 0");
        Script.of(sentence + " (one of two)", "g2,3;wabc;wabd;wbbc;l0a;l2c;").calls("place(0, 4) = 1; set(0, 1) = NO; set(0, 2) = NO; set(0, 0) = 1");
        Script.of(sentence + " (at its own place)", "g2,2;wab;wba;l0b;").calls("place(0, 4) = 2; set(0, 0) = NO");
    }

    private static void someSquareEmpty() {
        String sentence = "and some SQUARE of it is empty";
        Script.of(sentence + " (one)", SMALL + "l0a;").calls("place(0, 4) = 1; set(0, 0) = 1");
        Script.of(sentence + " (all)", SMALL).calls("place(0, 4) = 3; set(0, 0) = 2");
        Script.of(sentence + " (none, though its letters are the WORD's)", SMALL + "l0a;l1b;s0,0,0;")
                .calls("place(0, 4) = 0; set(0, 0) = NO; solver(0, 3) = 0; counts(0, 0, 0) = 0; evening() = 0");
    }

    private static void noneEmpty() {
        String sentence = "A PLACE in which none is empty is FULL";
        Script.of(sentence, "g2,4;wab;l0a;l1b;l2c;").calls("place(0, 3) = 0").text("l3d;").calls("lay(); place(0, 3) = 1; place(1, 3) = 0");
        Script.of(sentence + " (with letters that are no WORD)", SMALL + "l0f;l1f;").calls("place(0, 3) = 1; place(0, 4) = 0");
        Script.of(sentence + " (by PLACES across it)", SMALL).calls("set(0, 0); set(1, 0); place(2, 3) = 1; place(3, 3) = 1; strike(3); place(0, 3) = 0; place(2, 3) = 1");
    }

    private static void squaresThereAre() {
        String sentence = "6 square: Of a SQUARE. BAD";
        Script.of(sentence, "g2,2;wab;l3f;").unchanged("square(-1) = BAD; square(4) = BAD; square(12) = BAD; square(15) = BAD;"
                + "square(LOW) = BAD; square(HIGH) = BAD").calls("square(0) = 0; square(3) = 6");
        Script.of(sentence, "g4,4;wab;l15f;").calls("square(15) = 6; square(16) = BAD; square(-1) = BAD; square(0) = 0");
        Script.of(sentence + " (another grid was laid)", "g4,4;wab;l15f;").calls("wipe()").text("g2,3;wab;")
                .calls("lay() = 5; square(5) = 0; square(6) = BAD; square(15) = BAD");
    }

    private static void lettersOfSquares() {
        Script.of("6 square: the letter (0 none, 1 to 6", "g2,4;wab;l1a;l2b;l3c;l4d;l5e;l6f;")
                .calls("square(0) = 0; square(1) = 1; square(2) = 2; square(3) = 3; square(4) = 4; square(5) = 5; square(6) = 6; square(7) = 0");
    }

    private static void blackOnes() {
        Script.of("6 square: NONE: BLACK", "g2,2;b0;b3;wab;l3a;").calls("square(0) = NONE; square(1) = 0; square(2) = 0; square(3) = NONE");
    }

    private static void placesThereAre() {
        String sentence = "7 place: Of a PLACE. BAD";
        Script.of(sentence, SMALL).unchanged("place(-1, 0) = BAD; place(4, 0) = BAD; place(7, 0) = BAD; place(8, 0) = BAD;"
                + "place(LOW, 0) = BAD; place(HIGH, 0) = BAD; place(-1, 4) = BAD; place(4, 4) = BAD").calls("place(0, 0) = 0; place(3, 0) = 1");
        Script.of(sentence + " (eight)", "g4,4;wab;").calls("place(7, 0) = 3; place(8, 0) = BAD");
        Script.of(sentence + " (none)", "g2,2;b0;b3;wab;").calls("place(0, 0) = BAD; place(0, 3) = BAD; place(0, 4) = BAD");
    }

    private static void whatOfPlaces() {
        String sentence = "7 place: its first SQUARE (what = 0), how long (1), 1 if it is down (2), 1 if FULL (3), WORDS that FIT (4). BAD";
        Script.of(sentence, SMALL).unchanged("place(0, -1) = BAD; place(0, 5) = BAD; place(3, 6) = BAD; place(0, LOW) = BAD; place(0, HIGH) = BAD")
                .calls("place(3, 0) = 1; place(3, 1) = 2; place(3, 2) = 1; place(3, 3) = 0; place(3, 4) = 3");
    }

    private static void fullPlaces() {
        Script.of("7 place: 1 if FULL (3", "g3,4;wab;l0a;l1a;l2a;l4a;l8a;")
                .calls("place(0, 3) = 0; place(3, 3) = 1; place(4, 3) = 0; place(2, 3) = 0");
    }

    private static void wordsThatFit() {
        String sentence = "7 place: WORDS that FIT (4; bits)";
        Script.of(sentence + " (all nine)", NINE).calls("place(0, 4) = 511; place(3, 4) = 511");
        Script.of(sentence + " (the first alone)", "g2,2;wca;wab;wac;l0c;").calls("place(0, 4) = 1; place(2, 4) = 1; place(1, 4) = 7");
        Script.of(sentence + " (the last alone)", "g2,2;waa;wab;wad;wae;waf;wba;wbb;wbd;wbc;l1c;")
                .calls("place(0, 4) = 256; place(3, 4) = 0; place(2, 4) = 511");
        Script.of(sentence + " (some)", NINE + "l0a;l3a;").calls("place(0, 4) = 63; place(3, 4) = 65; place(1, 4) = 65");
        Script.of(sentence + " (none)", NINE + "l0f;").calls("place(0, 4) = 0; place(2, 4) = 0; place(1, 4) = 511");
        Script.of(sentence + " (none in a FULL one)", NINE + "l0a;l1a;").calls("place(0, 3) = 1; place(0, 4) = 0");
    }

    private static void wordsThereAre() {
        String sentence = "8 word: Of a WORD. BAD";
        Script.of(sentence, SMALL).unchanged("word(-1, 0) = BAD; word(2, 0) = BAD; word(8, 0) = BAD; word(9, 0) = BAD; word(LOW, 0) = BAD;"
                + "word(HIGH, 0) = BAD; word(-1, -1) = BAD; word(2, -1) = BAD").calls("word(0, -1) = 2; word(1, -1) = 2");
        Script.of(sentence + " (nine)", NINE).calls("word(8, 1) = 3; word(9, 1) = BAD");
        Script.of(sentence + " (of several the first)", SMALL).calls("word(2, 9) = BAD; word(-1, HIGH) = BAD; word(2, -2) = BAD");
    }

    private static void lettersOfWords() {
        String sentence = "8 word: how long (k = -1), its k-th letter (0 first; 1 to 6; NONE: there are not so many). BAD";
        Script.of(sentence, "wfa;wabc;wcdef;").calls("word(0, -1) = 2; word(0, 0) = 6; word(0, 1) = 1; word(0, 2) = NONE; word(0, 3) = NONE")
                .calls("word(1, -1) = 3; word(1, 2) = 3; word(1, 3) = NONE; word(2, -1) = 4; word(2, 3) = 6; word(2, 4) = NONE")
                .unchanged("word(2, 5) = NONE; word(2, HIGH) = NONE; word(0, -2) = BAD; word(2, -2) = BAD; word(0, LOW) = BAD");
    }

    private static void solversThereAre() {
        String sentence = "9 solver: Of a SOLVER. BAD";
        Script.of(sentence, SMALL + "s0,0,0;s1,7,1;").unchanged("solver(-1, 0) = BAD; solver(2, 0) = BAD; solver(5, 0) = BAD; solver(6, 0) = BAD;"
                + "solver(LOW, 0) = BAD; solver(HIGH, 0) = BAD; solver(2, 3) = BAD; solver(-1, 3) = BAD").calls("solver(0, 0) = 0; solver(1, 0) = 1");
        Script.of(sentence + " (none)", SMALL).calls("solver(0, 0) = BAD; solver(0, 1) = BAD; solver(0, 2) = BAD; solver(0, 3) = BAD");
        Script.of(sentence + " (six)").calls("solver(5, 1) = 3; solver(6, 1) = BAD");
    }

    private static void whatOfSolvers() {
        Script.of("9 solver: KIND (what = 0), PLACE (1), WORD (2), how much he counts this EVENING (3). BAD", SMALL + "s1,3,1;")
                .unchanged("solver(0, -1) = BAD; solver(0, 4) = BAD; solver(0, LOW) = BAD; solver(0, HIGH) = BAD; solver(0, 3) = 2")
                .calls("solver(0, 0) = 1; solver(0, 1) = 3; solver(0, 2) = 1; solver(0, 3) = 2");
    }

    private static void howMuchHeCounts() {
        String sentence = "9 solver: 0: he does not SEND";
        Script.of(sentence + " (no such PLACE)", SMALL + "s0,4,0;s0,3,0;s0,7,0;").calls("solver(0, 3) = 0; solver(1, 3) = 1; solver(2, 3) = 0");
        Script.of(sentence + " (no PLACE at all)", "g2,2;b0;b3;wab;s1,0,0;").calls("solver(0, 3) = 0");
        Script.of(sentence + " (it is not as long)", "g2,3;wab;wabc;s1,0,0;s1,0,1;").calls("solver(0, 3) = 0; solver(1, 3) = 2");
        Script.of(sentence + " (another letter stands)", SMALL + "l1c;s1,0,0;").calls("solver(0, 3) = 0; strike(0); solver(0, 3) = 2");
        Script.of(sentence + " (the PLACE is FULL)", SMALL + "s1,0,0;s3,0,0;").calls("set(0, 0); solver(0, 3) = 0; solver(1, 3) = 0; undo(); solver(0, 3) = 2");
    }
}
