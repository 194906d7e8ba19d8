/** BEHIND, FILLINGS, MUST, BEST, DEAD, COUNTS, WIN, promises 15 to 21: a test for each sentence that names a boundary case. */
public final class ComingBoundaryTest {
    // Places of a grid of two by two: 0 (0 1), 1 (2 3), 2 (0 2), 3 (1 3)
    private static final String SMALL = "g2,2;wab;wcd;";
    private static final String FOUR_WORDS = "g2,2;waa;wab;wba;wbb;";
    private static final String NO_PLACE = "g2,2;b0;b3;wab;";
    private static final String NO_FILLING = "g2,2;waa;l0a;l3b;";

    public static void main(String[] args) {
        eveningsBehind();
        lettersBehind();
        numbersOfBehind();
        wordInEachPlace();
        lettersThatStandStay();
        oneLetterEach();
        howManyFillings();
        firstFilling();
        noFilling();
        numbersOfFillings();
        oneAndTheSame();
        nothingThatMust();
        numbersOfMust();
        mostValue();
        noBest();
        deadPlaces();
        countsOfWords();
        whetherPrinted();
        numbersOfCounts();
        fewestWhoWin();
        lowestOfSeveral();
        nobodyWins();
        numbersOfWinning();
        Check.finish();
    }

    private static void eveningsBehind() {
        // Each evening the lady of the lowest row that is not full sends.
        Script script = Script.of("BEHIND n EVENINGS (0 to 20)", "g4,2;wab;s3,0,0;s3,1,0;s3,2,0;s3,3,0;");
        int[] evenings = {0, 1, 2, 3, 4, 5, 19, 20};
        for (int n : evenings) {
            for (int row = 0; row < 4; row++) {
                script.calls("behind(" + n + ", " + 2 * row + ") = " + (n > row ? 1 : 0) + "; behind(" + n + ", " + (2 * row + 1) + ") = " + (n > row ? 2 : 0));
            }
        }
        script.unchanged("behind(0, 0) = 0; behind(1, 0) = 1; behind(20, 7) = 2").calls("count(5) = 0; count(7) = 0");
    }

    private static void lettersBehind() {
        String sentence = "15 behind: the letter (0 none, 1 a, .. 6 f) (NONE: BLACK)";
        Script.of(sentence, "g2,3;b4;wcdf;s0,0,0;").calls("behind(0, 0) = 0; behind(1, 0) = 3; behind(1, 1) = 4; behind(1, 2) = 6; behind(1, 3) = 0")
                .calls("behind(0, 4) = NONE; behind(1, 4) = NONE; behind(20, 4) = NONE; behind(20, 5) = 0");
        Script.of(sentence + " (no SOLVER)", SMALL + "l0a;l1f;").calls("behind(0, 0) = 1; behind(20, 1) = 6; behind(20, 2) = 0");
        Script.of(sentence + " (no PLACE)", NO_PLACE + "l1c;").calls("behind(20, 0) = NONE; behind(20, 1) = 3; behind(20, 2) = 0");
    }

    private static void numbersOfBehind() {
        Script.of("15 behind: BAD", "g2,2;b0;wab;s0,0,0;").unchanged("behind(-1, 1) = BAD; behind(21, 1) = BAD; behind(LOW, 1) = BAD; behind(HIGH, 1) = BAD; behind(0, -1) = BAD;"
                + "behind(0, 4) = BAD; behind(20, 4) = BAD; behind(0, LOW) = BAD; behind(0, HIGH) = BAD").calls("behind(0, 3) = 0; behind(20, 3) = 2");
        Script.of("15 behind: BAD (of several the first)", "g2,2;b0;wab;").calls("behind(21, 0) = BAD; behind(-1, 0) = BAD; behind(20, 0) = NONE");
    }

    private static void wordInEachPlace() {
        String sentence = "FILLINGS: the ways to have a WORD in each PLACE (the same one in several, too)";
        Script.of(sentence, "g2,2;waa;").calls("fillings(-1) = 1; fillings(0) = 0; fillings(1) = 0; fillings(2) = 0; fillings(3) = 0");
        Script.of(sentence + " (a PLACE for which no WORD is as long)", "g2,3;waa;").calls("fillings(-1) = 0");
        Script.of(sentence + " (a FULL PLACE, of a WORD)", "g2,2;wab;wba;l0a;l1b;").calls("fillings(-1) = 1; fillings(0) = 0; fillings(1) = 1");
        Script.of(sentence + " (a FULL PLACE, of no WORD)", "g2,2;wab;wba;l0a;l1a;").calls("fillings(-1) = 0");
        Script.of(sentence + " (all FULL)", "g2,2;wab;wba;l0a;l1b;l2b;l3a;").calls("fillings(-1) = 1; fillings(3) = 1");
        Script.of(sentence + " (no PLACE)", NO_PLACE).calls("fillings(-1) = 1; fillings(0) = BAD");
        Script.of(sentence + " (one PLACE)", "g2,2;b2;b3;waa;wab;wba;").calls("fillings(-1) = 3; fillings(0) = 0");
    }

    private static void lettersThatStandStay() {
        String sentence = "so that all letters that stand stay";
        Script.of(sentence, FOUR_WORDS).calls("fillings(-1) = 16; set(0, 1); fillings(-1) = 4; fillings(0) = 1; set(1, 2); fillings(-1) = 1; fillings(1) = 2; fillings(2) = 1; fillings(3) = 2");
        Script.of(sentence + " (nothing changes)", FOUR_WORDS + "l0b;").unchanged("fillings(-1) = 8; fillings(0) = 2; must(0) = 2; best() = 8");
    }

    private static void oneLetterEach() {
        Script.of("and each SQUARE has one letter", "g2,2;wab;wcd;").calls("fillings(-1) = 0");
        Script.of("and each SQUARE has one letter", "g2,2;wab;wcd;wac;wbd;").calls("fillings(-1) = 4");
    }

    private static void howManyFillings() {
        String sentence = "16 fillings: how many (p = -1)";
        Script.of(sentence + " (PLACES that do not touch)", "g2,3;b1;b4;waa;wab;wbb;").calls("fillings(-1) = 9");
        // Eight squares, six places of two, all words of three letters: 3 to the eighth.
        Script.of(sentence + " (many)", "g3,4;b2;b5;b8;b11;waa;wab;wac;wba;wbb;wbc;wca;wcb;wcc;").calls("fillings(-1) = 6561; fillings(5) = 0; must(0) = NONE; best() = 24");
        // The most squares that can be in places of two alone are ten: 3 to the tenth, eight places.
        Script.of(sentence + " (most)", "g4,4;b1;b4;b7;b10;b13;waa;wab;wac;wba;wbb;wbc;wca;wcb;wcc;").calls("count(2) = 8; fillings(-1) = 59049; fillings(7) = 0; best() = 30");
    }

    private static void firstFilling() {
        String sentence = "of the first (by PLACE 0's WORD, then PLACE 1's, ..) the WORD of a PLACE";
        // cd begins no filling; of ab's two, cd in place 1 comes ahead of bd.
        Script.of(sentence, "g2,2;wcd;wab;wac;wbd;").calls("fillings(-1) = 4; fillings(0) = 1; fillings(1) = 0; fillings(2) = 2; fillings(3) = 3");
        Script.of(sentence + " (by the WORD's number, not by its letters)", "g2,2;wbb;wba;wab;waa;l3a;").calls("fillings(-1) = 8; fillings(0) = 0; fillings(1) = 1; fillings(2) = 0; fillings(3) = 1");
        Script.of(sentence + " (the last PLACE, the last WORD)", "g2,2;waa;wba;wbb;wbc;wbd;wbe;wbf;wca;wab;l0a;l1a;l2a;l3b;").calls("fillings(3) = 8; fillings(2) = 0; fillings(1) = 8");
    }

    private static void noFilling() {
        String sentence = "16 fillings: NONE";
        Script.of(sentence, NO_FILLING).unchanged("fillings(-1) = 0; fillings(0) = NONE; fillings(3) = NONE");
        Script.of(sentence + " (as long as there is none)", NO_FILLING).calls("fillings(0) = NONE; strike(3); fillings(-1) = 1; fillings(0) = 0; undo(); fillings(0) = NONE");
    }

    private static void numbersOfFillings() {
        Script.of("16 fillings: BAD", SMALL).unchanged("fillings(-2) = BAD; fillings(4) = BAD; fillings(7) = BAD; fillings(8) = BAD; fillings(LOW) = BAD; fillings(HIGH) = BAD");
        Script.of("16 fillings: BAD (of several the first)", NO_FILLING).calls("fillings(4) = BAD; fillings(-2) = BAD; fillings(3) = NONE");
        Script.of("16 fillings: BAD (eight)", "g4,4;waaaa;").calls("fillings(7) = 0; fillings(8) = BAD");
    }

    private static void oneAndTheSame() {
        String sentence = "MUST of a SQUARE: the letter that is there by all FILLINGS, if it is one and the same; none";
        Script.of(sentence + " (one FILLING)", "g2,2;wab;wba;l0a;").calls("must(0) = 1; must(1) = 2; must(2) = 2; must(3) = 1");
        Script.of(sentence + " (two that agree in some)", "g2,2;waa;wab;").calls("fillings(-1) = 2; must(0) = 1; must(1) = 1; must(2) = 1; must(3) = NONE");
        Script.of(sentence + " (two letters, then the first once more)", FOUR_WORDS).calls("must(0) = NONE; must(1) = NONE; must(2) = NONE; must(3) = NONE");
        Script.of(sentence + " (the highest letter)", "g4,4;wffff;").calls("must(0) = 6; must(15) = 6");
    }

    private static void nothingThatMust() {
        Script.of("17 must: NONE (BLACK, too", "g2,2;b3;waa;").calls("fillings(-1) = 1; must(0) = 1; must(3) = NONE");
        Script.of("17 must: no FILLING", NO_FILLING).unchanged("must(0) = NONE; must(1) = NONE; must(3) = NONE");
        Script.of("17 must: no FILLING (and BLACK)", "g2,3;b5;waa;l0a;").calls("fillings(-1) = 0; must(5) = NONE; must(0) = NONE");
        Script.of("17 must: NONE (in no PLACE, and empty)", NO_PLACE + "l1c;").calls("must(1) = 3; must(2) = NONE; must(0) = NONE");
    }

    private static void numbersOfMust() {
        Script.of("17 must: BAD", "g2,2;waa;").unchanged("must(-1) = BAD; must(4) = BAD; must(12) = BAD; must(15) = BAD; must(16) = BAD; must(LOW) = BAD; must(HIGH) = BAD").calls("must(3) = 1");
        Script.of("17 must: BAD (of several the first)", NO_FILLING).calls("must(4) = BAD; must(-1) = BAD; must(3) = NONE");
    }

    private static void mostValue() {
        Script.of("BEST: the most VALUE of all letters (a 1, b 2, .. f 6", "g2,2;waa;wff;").calls("best() = 24; set(0, 0); best() = 4");
        Script.of("BEST: each SQUARE once", "g4,4;wffff;").calls("best() = 96");
        Script.of("BEST: those in no PLACE, too", "g2,3;b1;b3;wab;wff;l0f;").calls("fillings(-1) = 2; best() = 24");
        Script.of("BEST: those in no PLACE, too (there is no PLACE)", NO_PLACE + "l1e;l2f;").calls("best() = 11");
        Script.of("BEST: by any FILLING", FOUR_WORDS).calls("best() = 8; set(0, 0); best() = 6; undo(); best() = 8");
        Script.of("BEST: by any FILLING (the last one, the first one)", "g2,2;b2;b3;wbb;waa;wff;").calls("best() = 12");
        Script.of("BEST: by any FILLING (no letter at all)", NO_PLACE).calls("best() = 0");
    }

    private static void noBest() {
        Script.of("18 best: NONE", NO_FILLING).unchanged("best() = NONE").calls("strike(3); best() = 4; undo(); best() = NONE");
        Script.of("18 best: NONE (nothing is as long)", "g4,4;wab;l0f;").calls("best() = NONE");
    }

    private static void deadPlaces() {
        String sentence = "19 dead: DEAD: PLACES (bits) that are not FULL and no WORD FITS";
        Script.of(sentence + " (none)", SMALL).unchanged("dead() = 0");
        Script.of(sentence + " (all eight)", "g4,4;wab;").unchanged("dead() = 255");
        Script.of(sentence + " (the first)", "g2,2;b2;b3;wab;l0b;").calls("dead() = 1");
        Script.of(sentence + " (the last of eight)", "g4,4;waaab;l3b;l7b;").calls("dead() = 128; place(7, 4) = 0; place(0, 4) = 1");
        Script.of(sentence + " (FULL ones are not)", "g2,2;wab;l0c;l1c;").calls("dead() = 12; strike(2); dead() = 9");
        Script.of(sentence + " (all FULL)", "g2,2;wab;l0f;l1f;l2f;l3f;").calls("dead() = 0");
        Script.of(sentence + " (no PLACE)", NO_PLACE).calls("dead() = 0");
    }

    private static void countsOfWords() {
        String sentence = "COUNTS of a WORD for a PLACE this EVENING";
        Script.of(sentence + " (nobody)", SMALL).unchanged("counts(0, 0, 0) = 0; counts(3, 1, 0) = 0");
        Script.of(sentence + " (of all six, the most)", "g2,4;wdddd;waeae;s2,0,1;s2,0,1;s2,0,1;s2,0,1;s2,0,1;s4,0,1;").calls("counts(0, 1, 0) = 31; counts(0, 0, 0) = 0; counts(1, 1, 0) = 0");
        Script.of(sentence + " (of that WORD and that PLACE alone)", SMALL + "s0,0,0;s1,0,1;s3,0,1;s0,1,0;").calls("counts(0, 0, 0) = 1; counts(0, 1, 0) = 5; counts(1, 0, 0) = 1; counts(1, 1, 0) = 0");
        Script.of(sentence + " (of those who SEND)", SMALL + "s3,1,0;s0,1,0;").calls("counts(1, 0, 0) = 1; set(0, 1); counts(1, 0, 0) = 4; set(1, 0); counts(1, 0, 0) = 0");
    }

    private static void whetherPrinted() {
        String sentence = "20 counts: 1 if it is PRINTED (1)";
        Script.of(sentence, SMALL + "s0,0,0;s1,2,1;").unchanged("counts(2, 1, 1) = 1; counts(0, 0, 1) = 0; counts(0, 0, 0) = 1; counts(3, 0, 1) = 0");
        Script.of(sentence + " (not in a PLACE that is FULL already)", SMALL + "l0a;l1b;s0,0,0;").calls("counts(0, 0, 1) = 0; counts(0, 0, 0) = 0");
        Script.of(sentence + " (the same WORD elsewhere)", SMALL + "s0,0,0;").calls("counts(0, 0, 1) = 1; counts(1, 0, 1) = 0; counts(2, 0, 1) = 0");
    }

    private static void numbersOfCounts() {
        Script.of("20 counts: BAD", SMALL + "s0,0,0;").unchanged("counts(-1, 0, 0) = BAD; counts(4, 0, 0) = BAD; counts(7, 0, 0) = BAD; counts(LOW, 0, 0) = BAD; counts(HIGH, 0, 0) = BAD;"
                + "counts(0, -1, 0) = BAD; counts(0, 2, 0) = BAD; counts(0, LOW, 0) = BAD; counts(0, HIGH, 0) = BAD; counts(0, 0, -1) = BAD; counts(0, 0, 2) = BAD; counts(0, 0, LOW) = BAD;"
                + "counts(0, 0, HIGH) = BAD; counts(4, 0, 1) = BAD; counts(0, 2, 1) = BAD").calls("counts(0, 0, 0) = 1; counts(0, 0, 1) = 1; counts(3, 1, 0) = 0; counts(3, 1, 1) = 0");
        Script.of("20 counts: BAD (a SOLVER wants it in a PLACE that is not there)", SMALL + "s0,7,0;").calls("counts(7, 0, 0) = BAD; counts(7, 0, 1) = BAD");
    }

    private static void fewestWhoWin() {
        String sentence = "WIN: the fewest SOLVERS such that, wanted each of them that WORD in that PLACE, it would be PRINTED this EVENING";
        Script.of(sentence + " (nobody need be won)", SMALL + "s0,0,0;").unchanged("win(0, 0) = 0");
        Script.of(sentence + " (one)", SMALL + "s0,0,0;").unchanged("win(0, 1) = 1; win(3, 1) = 1");
        Script.of(sentence + " (fewest, not lowest)", "g2,2;wcd;wab;s0,0,0;s0,0,0;s3,3,1;").calls("win(0, 1) = 4");
        String vowels = "s2,0,WORD;".repeat(6);
        Script.of(sentence + " (all six)", "g2,4;waaaa;wbcbc;" + vowels.replace("WORD", "0")).unchanged("win(0, 1) = 63; win(0, 0) = 0");
        Script.of(sentence + " (five of six: of like ones the lowest WORD)", "g2,4;wbcbc;waaaa;" + vowels.replace("WORD", "1")).calls("win(0, 0) = 31");
        // The party's word comes first and leaves no room; once he is won, nothing is in the way.
        Script.of(sentence + " (one who was in the way)", SMALL + "s0,2,0;s1,0,1;").calls("win(2, 0) = 2; win(0, 1) = 0");
        Script.of(sentence + " (one who was in the way and does not SEND then)", SMALL + "s3,0,0;s0,7,0;").calls("win(2, 1) = 3");
    }

    private static void lowestOfSeveral() {
        String sentence = "21 win: of several sets the lowest, as bits";
        Script.of(sentence + " (of one)", SMALL + "s0,7,0;s0,7,0;s0,7,0;").calls("win(0, 0) = 1; win(3, 1) = 1");
        Script.of(sentence + " (of two)", "g2,2;wcd;wab;s1,0,0;s1,0,0;s0,1,1;s0,1,1;").calls("win(0, 1) = 3");
        Script.of(sentence + " (the last SOLVER alone)", "g2,2;wcd;wab;s0,0,0;s0,0,0;s0,7,0;s0,7,0;s0,7,0;s3,7,0;").calls("win(0, 1) = 32");
    }

    private static void nobodyWins() {
        String sentence = "21 win: NONE";
        Script.of(sentence + " (no SOLVER)", SMALL).unchanged("win(0, 0) = NONE; win(3, 1) = NONE");
        Script.of(sentence + " (FULL)", SMALL + "l0a;l1b;s0,0,0;").unchanged("win(0, 0) = NONE; win(0, 1) = NONE");
        Script.of(sentence + " (not as long)", "g2,3;wab;s0,0,0;").unchanged("win(0, 0) = NONE; win(2, 0) = 1");
        Script.of(sentence + " (another letter stands)", SMALL + "l0c;s1,0,0;").unchanged("win(0, 0) = NONE");
        Script.of(sentence + " (a LADY elsewhere)", SMALL + "s3,0,0;").unchanged("win(1, 0) = NONE");
    }

    private static void numbersOfWinning() {
        Script.of("21 win: BAD", SMALL + "s0,0,0;").unchanged("win(-1, 0) = BAD; win(4, 0) = BAD; win(7, 0) = BAD; win(8, 0) = BAD; win(LOW, 0) = BAD; win(HIGH, 0) = BAD;"
                + "win(0, -1) = BAD; win(0, 2) = BAD; win(0, 9) = BAD; win(0, LOW) = BAD; win(0, HIGH) = BAD").calls("win(3, 1) = 1");
        Script.of("21 win: BAD (of several the first)", SMALL).calls("win(4, 0) = BAD; win(0, 2) = BAD; win(0, 0) = NONE");
    }
}
