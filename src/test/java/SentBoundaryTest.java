/** SENT, WANTS, LETTERS, promises 22 to 25: a test for each sentence that names a boundary case. */
public final class SentBoundaryTest {
    // Places of a grid of two by two: 0 (0 1), 1 (2 3), 2 (0 2), 3 (1 3)
    private static final String SMALL = "g2,2;wab;wcd;";
    private static final String NINE = "g2,2;waa;wab;wac;wad;wae;waf;wba;wbb;wbc;";

    public static void main(String[] args) {
        sixAtMost();
        full();
        numbersOfSent();
        forgotten();
        wordsHeWanted();
        inHisPlace();
        allThatIsToldOfHim();
        numbersOfWants();
        lettersThatStood();
        noneStood();
        allThatIsTold();
        blackOnes();
        numbersOfLetters();
        Check.finish();
    }

    private static void sixAtMost() {
        String sentence = "22 sent: SENT (6 at most): how many";
        Script.of(sentence, SMALL + "s0,0,0;s0,0,0;").calls("sent(0, true) = 1; sent(1, true) = 2; sent(0, true) = 3; sent(0, false) = 4; sent(1, false) = 5; sent(1, true) = 6; count(6) = 6");
        Script.of(sentence + " (one SOLVER alone)", SMALL + "s0,0,0;").times(6, "sent(0, true)").calls("count(6) = 6; wants(0) = 3; sent(0, true) = FULL");
    }

    private static void full() {
        String sentence = "22 sent: FULL";
        Script.of(sentence, SMALL + "s0,0,0;s0,1,0;").times(6, "sent(0, true)").unchanged("sent(0, true) = FULL; sent(0, false) = FULL; sent(1, false) = FULL")
                .calls("sent(1, false) = FULL; wants(1) = 3; letters(2) = 127; count(6) = 6");
        Script.of(sentence + " (of several the first)", SMALL + "s0,0,0;").times(6, "sent(0, true)").unchanged("sent(1, true) = BAD; sent(-1, true) = BAD");
        Script.of(sentence + " (no more, once it is forgotten)", SMALL + "s0,0,0;").times(6, "sent(0, true)").calls("sent(0, true) = FULL; forget() = 6; sent(0, true) = 1");
    }

    private static void numbersOfSent() {
        String sentence = "22 sent: BAD";
        Script.of(sentence, SMALL + "s0,0,0;s1,1,1;").calls("sent(0, true)").unchanged("sent(-1, true) = BAD; sent(2, true) = BAD; sent(2, false) = BAD; sent(5, true) = BAD; sent(6, true) = BAD;"
                + "sent(LOW, true) = BAD; sent(HIGH, false) = BAD").calls("sent(1, true) = 2");
        Script.of(sentence + " (no SOLVER)", SMALL).unchanged("sent(0, true) = BAD; sent(0, false) = BAD");
        Script.of(sentence + " (six)").calls("sent(5, false) = 1; sent(6, false) = BAD");
    }

    private static void forgotten() {
        String sentence = "23 forget: Nothing was SENT: how many told";
        Script.of(sentence + " (none)", SMALL + "s0,0,0;").unchanged("forget() = 0").calls("forget() = 0; count(6) = 0");
        Script.of(sentence + " (one)", SMALL + "s0,7,0;").calls("sent(0, true) = 1; wants(0) = 0; forget() = 1; wants(0) = 3; letters(0) = 127; count(6) = 0; forget() = 0");
        Script.of(sentence + " (six)", SMALL + "s0,0,0;").times(6, "sent(0, true)").calls("forget() = 6; forget() = 0; sent(0, false) = 1; wants(0) = 0; count(6) = 1");
    }

    private static void wordsHeWanted() {
        String sentence = "24 wants: WANTS of a SOLVER: those WORDS (bits), as bits";
        Script.of(sentence + " (nothing told: all nine)", NINE + "s0,0,0;").unchanged("wants(0) = 511");
        Script.of(sentence + " (nothing told: the one)", "wab;s0,0,0;").calls("wants(0) = 1");
        Script.of(sentence + " (the first alone)", "g2,2;wab;wcd;wef;l0a;s0,0,2;").calls("sent(0, true); wants(0) = 1");
        Script.of(sentence + " (the last alone)", "g2,2;wba;wcd;wee;wfa;wca;wbb;wdd;wea;wab;l0a;s0,0,0;").calls("sent(0, true); wants(0) = 256; forget(); sent(0, false); wants(0) = 255");
        Script.of(sentence + " (none)", SMALL + "l0f;s0,0,0;").calls("sent(0, true); wants(0) = 0; forget(); sent(0, false); wants(0) = 3");
    }

    private static void inHisPlace() {
        String sentence = "such that, wanted he that one in his PLACE";
        Script.of(sentence, "g2,3;wab;wabc;wcd;s0,0,0;s0,2,1;").calls("sent(0, true); sent(1, true); wants(0) = 2; wants(1) = 5; solver(0, 2) = 0; solver(1, 2) = 1");
        Script.of(sentence + " (that is not there)", SMALL + "s0,4,0;").calls("sent(0, false); wants(0) = 3; sent(0, true); wants(0) = 0");
        Script.of(sentence + " (that is FULL)", SMALL + "l0a;l1b;s0,0,0;").calls("sent(0, true); wants(0) = 0; forget(); sent(0, false); wants(0) = 3");
        Script.of(sentence + " (a LADY, not in the lowest one)", SMALL + "s3,1,0;").calls("sent(0, true); wants(0) = 0; set(0, 0); wants(0) = 3");
    }

    private static void allThatIsToldOfHim() {
        String sentence = "all that is told of his SENDING would be so";
        Script.of(sentence + " (nothing of him)", SMALL + "s0,0,0;s0,4,0;").calls("sent(1, true); wants(0) = 3; wants(1) = 0");
        Script.of(sentence + " (the same twice)", SMALL + "l0a;s0,0,0;").calls("sent(0, true); sent(0, true); wants(0) = 1");
        Script.of(sentence + " (both)", SMALL + "s0,0,0;").calls("sent(0, true); sent(0, false); wants(0) = 0");
        Script.of(sentence + " (the sixth)", SMALL + "l0a;s0,0,0;").times(5, "sent(0, true)").calls("wants(0) = 1; sent(0, false) = 6; wants(0) = 0");
    }

    private static void numbersOfWants() {
        Script.of("24 wants: BAD", SMALL + "s0,0,0;").calls("sent(0, true)").unchanged("wants(-1) = BAD; wants(1) = BAD; wants(5) = BAD; wants(6) = BAD; wants(LOW) = BAD; wants(HIGH) = BAD; wants(0) = 3");
        Script.of("24 wants: BAD (no SOLVER)", SMALL).calls("wants(0) = BAD");
    }

    private static void lettersThatStood() {
        String sentence = "25 letters: LETTERS of a SQUARE: those letters (bits, 0 for none), as bits";
        Script.of(sentence + " (nothing told: all)", SMALL + "l0a;s0,0,0;").unchanged("letters(0) = 127; letters(3) = 127");
        Script.of(sentence + " (no SOLVER, no PLACE)", "g2,2;b0;b3;wab;").calls("letters(1) = 127; letters(2) = 127");
        Script.of(sentence + " (the highest)", "g2,2;wfa;l1a;s0,0,0;").calls("sent(0, true); letters(0) = 1; letters(1) = 3; strike(0); letters(0) = 65; square(0) = 0");
        Script.of(sentence + " (none)", SMALL + "l0f;s0,0,0;").calls("sent(0, true); letters(1) = 0; letters(0) = 3; letters(2) = 0");
    }

    private static void noneStood() {
        String sentence = "0 for none";
        // In the one empty square of the place no letter can have stood: the place would have been full.
        Script.of(sentence + " (that alone)", SMALL + "l0a;s0,0,0;").calls("sent(0, true); letters(1) = 1; letters(0) = 3");
        Script.of(sentence + " (all but that)", SMALL + "l0a;s0,0,0;").calls("sent(0, false); letters(1) = 126; letters(0) = 124");
        Script.of(sentence + " (a letter stands there now)", SMALL + "l0a;l1b;s0,0,0;").calls("sent(0, true); letters(0) = 1; letters(1) = 1; letters(2) = 0");
    }

    private static void allThatIsTold() {
        String sentence = "stood that one there, all that is told of SENDING would be so";
        Script.of(sentence + " (of all SOLVERS)", SMALL + "s0,0,0;s0,2,1;").calls("sent(0, true); letters(0) = 3; sent(1, true); letters(0) = 1; letters(1) = 5; letters(2) = 17; letters(3) = 127");
        Script.of(sentence + " (both)", SMALL + "s0,0,0;").calls("sent(0, true); sent(0, false); letters(0) = 0; letters(3) = 0");
        Script.of(sentence + " (in no PLACE of his)", SMALL + "s0,0,0;").calls("sent(0, true); letters(2) = 127; forget(); sent(0, false); letters(2) = 0");
        Script.of(sentence + " (a LADY, whose PLACE is the lowest one by it)", SMALL + "l0a;s3,1,0;").calls("sent(0, true); letters(1) = 126; letters(0) = 0; letters(2) = 0");
        Script.of(sentence + " (a PLACE that is not there)", SMALL + "s0,4,0;").calls("sent(0, false); letters(0) = 127; sent(0, true); letters(0) = 0");
        Script.of(sentence + " (nothing changes)", SMALL + "l0a;s0,0,0;").calls("sent(0, true)").unchanged("letters(0) = 3; letters(1) = 1; letters(2) = 127");
    }

    private static void blackOnes() {
        Script.of("25 letters: NO: BLACK", "g2,2;b0;b3;wab;s0,0,0;").calls("sent(0, false)").unchanged("letters(0) = NO; letters(3) = NO").calls("letters(1) = 127; letters(2) = 127");
    }

    private static void numbersOfLetters() {
        Script.of("25 letters: BAD", "g2,2;b3;wab;").unchanged("letters(-1) = BAD; letters(4) = BAD; letters(12) = BAD; letters(15) = BAD; letters(16) = BAD; letters(LOW) = BAD; letters(HIGH) = BAD; letters(3) = NO");
    }
}
