/** CHANCE, WEEKS, KEPT, promises 26 to 30: a test for each sentence that names a boundary case. */
public final class ChanceBoundaryTest {
    // Places of a grid of two by two: 0 (0 1), 1 (2 3), 2 (0 2), 3 (1 3)
    private static final String SMALL = "g2,2;wab;wcd;";
    private static final String SIX_ALIKE = SMALL + "s0,0,0;s0,0,0;s0,0,0;s0,0,0;s0,0,0;s0,0,0;";

    public static void main(String[] args) {
        xOfTen();
        whoWouldSend();
        lateOnesCount();
        lowestTerms();
        numbersOfChance();
        firstAndLastDraws();
        oneToFortyEvenings();
        withoutSolversOrPlaces();
        drawsModulo();
        struckOutByDraws();
        fullThenAndHowOften();
        numbersOfWeeks();
        twoAtMost();
        lettersAndWants();
        keptLast();
        nothingIsUndoneThen();
        nothingKept();
        smallestCounts();
        largestCounts();
        numbersOfCount();
        Check.finish();
    }

    private static String chance(int p, int w, int x, int above, int below) {
        String call = "chance(" + p + ", " + w + ", " + x + ", ";
        return call + "0) = " + above + "; " + call + "1) = " + below;
    }

    private static void xOfTen() {
        String sentence = "CHANCE: each SOLVER who would SEND this EVENING does by x (0 to 10) of ten";
        Script.of(sentence + " (0)", SIX_ALIKE).calls(chance(0, 0, 0, 0, 1)).calls(chance(3, 1, 0, 0, 1));
        Script.of(sentence + " (10)", SIX_ALIKE).calls(chance(0, 0, 10, 1, 1)).calls(chance(0, 1, 10, 0, 1));
        Script.of(sentence + " (1 and 9)", SMALL + "s0,0,0;").calls(chance(0, 0, 1, 1, 10)).calls(chance(0, 0, 9, 9, 10));
    }

    private static void whoWouldSend() {
        String sentence = "each SOLVER who would SEND this EVENING";
        Script.of(sentence + " (no SOLVER)", SMALL).calls(chance(0, 0, 5, 0, 1)).calls(chance(0, 0, 10, 0, 1)).calls(chance(0, 0, 0, 0, 1));
        Script.of(sentence + " (nobody would)", SMALL + "s0,4,0;s3,1,0;").calls(chance(0, 0, 10, 0, 1)).calls(chance(1, 0, 10, 0, 1)).calls(chance(1, 0, 3, 0, 1));
        Script.of(sentence + " (FULL)", SMALL + "l0a;l1b;s0,0,0;").calls(chance(0, 0, 10, 0, 1));
        Script.of(sentence + " (one would, five would not)", SMALL + "s0,0,0;s0,7,0;s0,7,0;s0,7,0;s3,1,0;s3,2,0;").calls(chance(0, 0, 3, 3, 10)).calls(chance(1, 0, 3, 0, 1));
        // The lady sends by what is full ahead of the evening, not by who else does.
        Script.of(sentence + " (a LADY)", SMALL + "s3,0,0;s3,1,0;").calls(chance(0, 0, 10, 1, 1)).calls(chance(1, 0, 10, 0, 1));
        Script.of("for himself", SMALL + "s0,0,0;s0,0,1;").calls(chance(0, 0, 5, 1, 2)).calls(chance(0, 1, 5, 1, 4)).calls(chance(0, 1, 3, 21, 100));
    }

    private static void lateOnesCount() {
        String sentence = "a LATE one counts those who do";
        // Word 0 needs both against the party's 2: the late one counts 2 then, and 1 by himself.
        Script.of(sentence, SMALL + "s0,0,0;s4,0,0;s1,0,1;").calls(chance(0, 0, 2, 37, 125)).calls(chance(0, 1, 2, 24, 125)).calls(chance(0, 0, 10, 1, 1)).calls(chance(0, 1, 10, 0, 1));
    }

    private static void lowestTerms() {
        String sentence = "26 chance: the chance that a WORD is PRINTED in a PLACE this EVENING, in lowest terms: above (part = 0), below (1)";
        Script.of(sentence, SMALL + "s0,0,0;").calls(chance(0, 0, 5, 1, 2)).calls(chance(0, 0, 2, 1, 5)).calls(chance(0, 0, 4, 2, 5)).calls(chance(0, 0, 8, 4, 5)).calls(chance(0, 0, 7, 7, 10));
        Script.of(sentence + " (six)", SIX_ALIKE).calls(chance(0, 0, 1, 468559, 1000000)).calls(chance(0, 0, 9, 999999, 1000000)).calls(chance(0, 0, 5, 63, 64));
        Script.of(sentence + " (nothing: 0 of 1)", SMALL + "s0,0,0;").calls(chance(3, 1, 7, 0, 1));
        Script.of(sentence + " (nothing changes)", SMALL + "s0,0,0;").unchanged("chance(0, 0, 5, 0) = 1; chance(0, 0, 5, 1) = 2");
    }

    private static void numbersOfChance() {
        Script.of("26 chance: BAD", SMALL + "s0,0,0;").unchanged("chance(-1, 0, 5, 0) = BAD; chance(4, 0, 5, 0) = BAD; chance(7, 0, 5, 1) = BAD; chance(LOW, 0, 5, 0) = BAD; chance(HIGH, 0, 5, 0) = BAD;"
                + "chance(0, -1, 5, 0) = BAD; chance(0, 2, 5, 0) = BAD; chance(0, LOW, 5, 0) = BAD; chance(0, HIGH, 5, 0) = BAD; chance(0, 0, -1, 0) = BAD; chance(0, 0, 11, 0) = BAD;"
                + "chance(0, 0, LOW, 0) = BAD; chance(0, 0, HIGH, 0) = BAD; chance(0, 0, 5, -1) = BAD; chance(0, 0, 5, 2) = BAD; chance(0, 0, 5, LOW) = BAD; chance(0, 0, 5, HIGH) = BAD");
        Script.of("26 chance: BAD (also where nobody SENDS)", SMALL).calls("chance(0, 0, 11, 1) = BAD; chance(4, 0, 0, 1) = BAD; chance(0, 2, 0, 1) = BAD; chance(0, 0, 0, 2) = BAD; chance(3, 1, 0, 1) = 1");
    }

    private static String weeks(int z, int n, int filled, int printed) {
        String call = "weeks(" + z + ", " + n + ", ";
        return call + "0) = " + filled + "; " + call + "1) = " + printed;
    }

    private static void firstAndLastDraws() {
        // Draws of z 0: 1, 41487, 10299; of z 9999: 51303, 32612. Their x is up to 79421971, its square far beyond an int.
        String sentence = "WEEKS by z (0 to 9999)";
        Script.of(sentence + " (0)", SMALL + "s0,0,0;").calls(weeks(0, 1, 1, 1)).calls(weeks(0, 2, 1, 2)).calls(weeks(0, 40, 4, 14));
        Script.of(sentence + " (9999)", SMALL + "s0,0,0;").calls(weeks(9999, 1, 1, 1)).calls(weeks(9999, 2, 1, 1)).calls(weeks(9999, 40, 4, 11));
        Script.of(sentence + " (9999, two SOLVERS)", SMALL + "s0,0,0;s0,0,0;").calls(weeks(9999, 1, 4, 2)).calls(weeks(9999, 40, 2, 13));
    }

    private static void oneToFortyEvenings() {
        String sentence = "of n (1 to 40) EVENINGS from now on";
        Script.of(sentence + " (1, 39, 40)", SMALL + "s0,0,0;").calls(weeks(9999, 1, 1, 1)).calls(weeks(9999, 39, 4, 10)).calls(weeks(9999, 40, 4, 11));
        String six = "g2,2;wab;wba;waa;s0,0,0;s0,0,0;s0,0,0;s0,0,0;s0,0,0;s0,0,0;";
        Script.of(sentence + " (six SOLVERS)", six).calls(weeks(0, 1, 1, 1)).calls(weeks(0, 2, 1, 2)).calls(weeks(0, 40, 4, 20)).calls(weeks(9999, 39, 4, 15)).calls(weeks(9999, 40, 4, 17));
        // From now on: the first draw of z 9999 (word 0, place 1) finds place 0 printed ahead.
        Script.of(sentence + " (from now on)", SMALL + "s0,0,0;").calls("set(0, 0)").calls(weeks(9999, 1, 4, 1));
        Script.of(sentence + " (nothing changes)", SMALL + "s0,0,0;").calls("evening()").unchanged("weeks(0, 40, 0) = 4; weeks(0, 1, 1) = 1");
    }

    private static void withoutSolversOrPlaces() {
        String sentence = "if there are SOLVERS and PLACES";
        Script.of(sentence + " (no SOLVER: nothing is STRUCK OUT, either)", "g2,2;wab;l0a;l1b;").calls(weeks(0, 1, 1, 0)).calls(weeks(0, 40, 1, 0)).calls(weeks(9999, 40, 1, 0));
        Script.of(sentence + " (no PLACE)", "g2,2;b0;b3;wab;l1a;s0,0,0;").calls(weeks(0, 1, 0, 0)).calls(weeks(0, 40, 0, 0)).calls(weeks(9999, 40, 0, 0));
        Script.of(sentence + " (neither)", "g2,2;b0;b3;wab;").calls(weeks(0, 40, 0, 0));
    }

    private static void drawsModulo() {
        // The draw of z 9999 and k 0 is 51303: by 8 6412, by 64 801, by 1024 50, which is 2 modulo 4.
        // Who is drawn wants word 0 in place 1; if it is the one who wanted it in place 0, that is printed no more.
        String sentence = "SOLVER DRAW modulo as many as there are";
        Script.of(sentence + " (51303 modulo 2 is 1)", SMALL + "s0,7,0;s0,0,0;").calls(weeks(9999, 1, 1, 1));
        Script.of(sentence + " (51303 modulo 2 is 1)", SMALL + "s0,0,0;s0,7,0;").calls(weeks(9999, 1, 4, 2));
        Script.of(sentence + " (51303 modulo 3 is 0)", SMALL + "s0,0,0;s0,7,0;s0,7,0;").calls(weeks(9999, 1, 1, 1));
        Script.of(sentence + " (51303 modulo 6 is 3)", SMALL + "s0,7,0;s0,7,0;s0,7,0;s0,0,0;s0,7,0;s0,7,0;").calls(weeks(9999, 1, 1, 1));
        Script.of(sentence + " (51303 modulo 6 is 3)", SMALL + "s0,0,0;s0,7,0;s0,7,0;s0,7,0;s0,7,0;s0,7,0;").calls(weeks(9999, 1, 4, 2));
        Script.of("wants WORD (DRAW by 8, cut) modulo as many as there are (6412 modulo 2 is 0)", "g2,3;wab;wcde;s0,7,0;").calls(weeks(9999, 1, 0, 0));
        Script.of("wants WORD (DRAW by 8, cut) modulo as many as there are (6412 modulo 2 is 0)", "g2,3;wcde;wab;s0,7,0;").calls(weeks(9999, 1, 1, 1));
        Script.of("in PLACE (DRAW by 64, cut) modulo as many as there are (801 modulo 5 is 1)", "g2,3;wcde;l0a;s0,7,0;").calls(weeks(9999, 1, 2, 1));
        Script.of("in PLACE (DRAW by 64, cut) modulo as many as there are (801 modulo 5 is 1)", "g2,3;wcde;l3a;s0,7,0;").calls(weeks(9999, 1, 0, 0));
    }

    private static void struckOutByDraws() {
        // Draws of k 0: of z 0 1 (by 1024: 0), of z 9999 51303 (50, which is 2 modulo 4).
        String sentence = "which is STRUCK OUT, if (DRAW by 1024, cut) modulo 4 is 0";
        Script.of(sentence + " (0)", SMALL + "l0f;s0,7,1;").calls(weeks(0, 1, 1, 1));
        Script.of(sentence + " (2)", SMALL + "l2f;s0,7,1;").calls(weeks(9999, 1, 0, 0));
        // Draws of k 0 at the edges of by 1024: 8192 (8), 19456 (19), 5119 (4), 3071 (2), 32767 (31).
        Script.of(sentence + " (8, 19: nothing is cut off)", SMALL + "l0f;s0,7,1;").calls(weeks(6953, 1, 1, 1)).calls(weeks(237, 1, 0, 0));
        Script.of(sentence + " (4, 2, 31: the most is cut off)", SMALL + "l1f;s0,7,0;").calls(weeks(5469, 1, 1, 1)).calls(weeks(7128, 1, 0, 0)).calls(weeks(2912, 1, 0, 0));
        // The draws of z 8058 are 29184 (by 64: 456, by 1024: 28) and 0: place 0 is struck out both times.
        Script.of(sentence + " (a DRAW of 0)", "g2,2;wab;l0f;l1f;l2f;l3f;s0,7,0;").calls(weeks(8058, 1, 4, 1)).calls(weeks(8058, 2, 4, 2));
    }

    private static void fullThenAndHowOften() {
        String sentence = "how many PLACES are FULL then; how often a WORD was PRINTED";
        Script.of(sentence + " (all FULL, none PRINTED)", "g2,2;wab;l0f;l1f;l2f;l3f;s0,0,0;").calls(weeks(9999, 1, 4, 0));
        Script.of(sentence + " (more often than there are PLACES)", SMALL + "s0,0,0;").calls(weeks(0, 40, 4, 14));
        Script.of(sentence + " (none, none)", "g2,2;wabc;s0,0,0;").calls(weeks(0, 40, 0, 0));
    }

    private static void numbersOfWeeks() {
        Script.of("27 weeks: BAD", SMALL + "s0,0,0;").unchanged("weeks(-1, 1, 0) = BAD; weeks(10000, 1, 0) = BAD; weeks(LOW, 1, 0) = BAD; weeks(HIGH, 1, 0) = BAD; weeks(0, 0, 0) = BAD; weeks(0, -1, 0) = BAD;"
                + "weeks(0, 41, 0) = BAD; weeks(0, LOW, 0) = BAD; weeks(0, HIGH, 0) = BAD; weeks(0, 1, -1) = BAD; weeks(0, 1, 2) = BAD; weeks(0, 1, LOW) = BAD; weeks(0, 1, HIGH) = BAD")
                .calls("weeks(0, 1, 0) = 1; weeks(9999, 40, 1) = 11");
    }

    private static void twoAtMost() {
        String sentence = "28 keep: KEPT are letters and wants: 2 at most: how many. FULL";
        Script.of(sentence, SMALL + "s0,0,0;").calls("keep() = 1; count(8) = 1; keep() = 2; count(8) = 2; keep() = FULL; count(8) = 2");
        Script.of(sentence + " (nothing changes then)", SMALL + "s0,0,0;").calls("keep(); set(0, 1); keep(); want(0, 3, 1)").unchanged("keep() = FULL")
                .calls("keep() = FULL; back() = 1; square(0) = 3; solver(0, 1) = 0; back() = 0; square(0) = 0");
        Script.of(sentence + " (anew, once one is back)", SMALL).calls("keep() = 1; keep() = 2; back() = 1; keep() = 2; keep() = FULL; back() = 1; back() = 0; keep() = 1");
        Script.of(sentence + " (what can be UNDONE stays)", SMALL).calls("set(0, 0); keep() = 1; count(7) = 1; undo() = 0; count(5) = 0");
    }

    private static void lettersAndWants() {
        String sentence = "29 back: As KEPT last: letters and wants";
        Script.of(sentence + " (letters)", SMALL).calls("set(0, 0); keep(); set(1, 1); strike(2); back() = 0; square(0) = 1; square(1) = 2; square(2) = 0; square(3) = 0");
        Script.of(sentence + " (wants)", SMALL + "s0,1,0;s4,2,1;").calls("keep(); want(0, 7, 1); want(1, 0, 0); back() = 0; solver(0, 1) = 1; solver(0, 2) = 0; solver(1, 1) = 2; solver(1, 2) = 1");
        Script.of(sentence + " (not what is told)", SMALL + "s0,1,0;").calls("keep(); sent(0, true); back() = 0; count(6) = 1");
        Script.of(sentence + " (not THE TEXT)", SMALL).calls("keep(); write(119); back() = 0; count(9) = 14");
    }

    private static void keptLast() {
        String sentence = "29 back: As KEPT last: how many are left";
        Script.of(sentence, SMALL).calls("set(0, 0); keep() = 1; set(1, 1); keep() = 2; strike(0); strike(1); back() = 1; count(5) = 4; count(8) = 1; back() = 0; count(5) = 2; count(8) = 0; back() = NO; count(5) = 2");
        Script.of(sentence + " (as it is now)", SMALL).calls("keep() = 1; back() = 0; count(5) = 0");
    }

    private static void nothingIsUndoneThen() {
        String sentence = "29 back: nothing is UNDONE then";
        Script.of(sentence, SMALL).calls("set(0, 0); keep(); set(1, 1); count(7) = 2; back() = 0; count(7) = 0; undo() = NO; count(5) = 2; strike(0); count(7) = 1; undo() = 0; count(5) = 2");
        Script.of(sentence + " (of eight)", SMALL).calls("keep()").times(9, "evening()").calls("count(7) = 8; back() = 0; count(7) = 0; undo() = NO");
    }

    private static void nothingKept() {
        Script.of("29 back: NO", SMALL).calls("set(0, 0)").unchanged("back() = NO").calls("back() = NO; count(7) = 1; undo() = 0; count(5) = 0");
        Script.of("29 back: NO (at first)").unchanged("back() = NO");
    }

    private static void smallestCounts() {
        Script.of("30 count: How many (the fewest)", "g2,2;b0;b1;b2;b3;wab;").calls("wipe()")
                .calls("count(0) = 4; count(1) = 2; count(2) = 0; count(3) = 1; count(4) = 0; count(5) = 0; count(6) = 0; count(7) = 0; count(8) = 0; count(9) = 0");
    }

    private static void largestCounts() {
        Script.of("30 count: How many (the most)", "g4,4;waaaa;wab;wac;wad;wae;waf;wba;wbb;wbc;s0,0,0;s0,1,0;s0,2,0;s0,3,0;s0,4,0;s0,5,0;")
                .calls("evening() = 4").times(8, "evening()").times(6, "sent(5, true)").calls("keep(); keep()").times(200 - 85, "write(32)")
                .calls("count(0) = 16; count(1) = 4; count(2) = 8; count(3) = 9; count(4) = 6; count(5) = 16; count(6) = 6; count(7) = 8; count(8) = 2; count(9) = 200");
        Script.of("30 count: 1 rows, not columns", "g4,2;wab;").calls("count(1) = 4; count(0) = 8");
        Script.of("30 count: 5 letters that stand (not in BLACK ones)", "g2,2;b0;wab;l0a;l1b;").calls("count(5) = 1; evening(); count(5) = 1");
    }

    private static void numbersOfCount() {
        Script.of("30 count: BAD", SMALL).unchanged("count(-1) = BAD; count(10) = BAD; count(LOW) = BAD; count(HIGH) = BAD; count(0) = 4; count(9) = 13");
    }
}
