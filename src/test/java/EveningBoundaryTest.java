/** An EVENING, setting, STRIKING, wanting, UNDONE, promises 10 to 14: a test for each sentence that names a boundary case. */
public final class EveningBoundaryTest {
    // Places of a grid of two by two: 0 (0 1), 1 (2 3), 2 (0 2), 3 (1 3)
    private static final String SMALL = "g2,2;wab;wcd;";

    public static void main(String[] args) {
        ifThereIsThatPlace();
        ifItFitsNow();
        plainAndParty();
        vowels();
        ladies();
        lateOnes();
        mostCountsFirst();
        ofLikeOnes();
        ifItFitsByThen();
        howManyArePrinted();
        setByHand();
        emptySquaresSet();
        settingThatDoesNotFit();
        numbersOfSetting();
        struckOut();
        lettersStruckOut();
        nothingToStrike();
        numbersOfStriking();
        wantingSomethingElse();
        numbersOfWanting();
        undoneOneByOne();
        lastEight();
        lastEightWrapped();
        howManyMore();
        nothingToUndo();
        whatIsNotUndone();
        Check.finish();
    }

    private static void ifThereIsThatPlace() {
        String sentence = "An EVENING: each SOLVER SENDS his WORD for his PLACE, if there is that PLACE";
        Script.of(sentence + " (the last)", SMALL + "s0,3,0;").calls("solver(0, 3) = 1; evening() = 1; square(1) = 1; square(3) = 2");
        Script.of(sentence + " (one too high)", SMALL + "s0,4,0;s0,7,0;").calls("solver(0, 3) = 0; evening() = 0; count(5) = 0; solver(1, 3) = 0");
        Script.of(sentence + " (no PLACE)", "g2,2;b0;b3;wab;s0,0,0;").calls("evening() = 0; count(5) = 0; count(7) = 1");
        Script.of(sentence + " (no SOLVER)", SMALL).calls("evening() = 0; count(5) = 0; count(7) = 1");
    }

    private static void ifItFitsNow() {
        String sentence = "and it FITS now";
        Script.of(sentence + " (as long)", "g2,3;wab;wabc;s0,0,0;s0,1,1;").calls("solver(0, 3) = 0; solver(1, 3) = 1; evening() = 1; square(0) = 0; square(3) = 1");
        Script.of(sentence + " (another letter)", SMALL + "l0c;s0,0,0;").calls("solver(0, 3) = 0; evening() = 0; square(1) = 0");
        Script.of(sentence + " (FULL)", SMALL + "l0a;l1b;s0,0,0;").calls("solver(0, 3) = 0; evening() = 0");
        // Both FIT ahead of the printing: the second one is SENT, though it FITS no more when its turn comes.
        Script.of(sentence + " (not by then)", SMALL + "s1,0,0;s0,2,1;").calls("counts(2, 1, 0) = 1; counts(2, 1, 1) = 0; evening() = 1; counts(2, 1, 0) = 0");
    }

    private static void plainAndParty() {
        Script.of("it counts 1; a PARTY's 2", SMALL + "s0,0,0;s1,0,0;s0,1,1;s1,3,1;")
                .calls("solver(0, 3) = 1; solver(1, 3) = 2; solver(2, 3) = 1; solver(3, 3) = 2; counts(0, 0, 0) = 3");
    }

    private static void vowels() {
        String sentence = "a VOWEL one's 1, and 1 more for each a and e in it";
        Script.of(sentence, "g2,4;wbcdf;wabcd;wfdce;waeae;waaaa;weeff;s2,0,0;s2,0,1;s2,0,2;s2,0,3;s2,0,4;s2,0,5;")
                .calls("solver(0, 3) = 1; solver(1, 3) = 2; solver(2, 3) = 2; solver(3, 3) = 5; solver(4, 3) = 5; solver(5, 3) = 3");
    }

    private static void ladies() {
        String sentence = "a LADY's 3, but only in the PLACE of lowest number that is not FULL";
        Script.of(sentence + " (the first)", SMALL + "s3,0,0;s3,1,0;s3,3,0;").calls("solver(0, 3) = 3; solver(1, 3) = 0; solver(2, 3) = 0");
        Script.of(sentence + " (the first is FULL)", SMALL + "l0f;l1f;s3,0,0;s3,1,0;s3,3,0;").calls("solver(0, 3) = 0; solver(1, 3) = 3; solver(2, 3) = 0");
        Script.of(sentence + " (the last alone is not FULL)", "g2,3;b0;b2;b3;wab;wba;s3,0,0;s3,1,1;")
                .calls("count(2) = 2; solver(0, 3) = 3; solver(1, 3) = 0; set(0, 0); solver(0, 3) = 0; solver(1, 3) = 3");
        Script.of(sentence + " (all FULL)", "g2,2;wab;l0a;l1a;l2a;l3a;s3,0,0;s3,3,0;").calls("solver(0, 3) = 0; solver(1, 3) = 0; evening() = 0");
        Script.of(sentence + " (all eight FULL)", "g4,4;waaaa;s3,0,0;s3,7,0;").calls("set(4, 0); set(5, 0); set(6, 0); solver(1, 3) = 0; solver(0, 3) = 3; set(7, 0); solver(0, 3) = 0; solver(1, 3) = 0; evening() = 0");
        Script.of(sentence + " (DEAD, yet not FULL)", SMALL + "l0f;s3,1,0;").calls("dead() = 5; solver(0, 3) = 0; evening() = 0");
        Script.of(sentence + " (FULL only by then)", SMALL + "s0,0,0;s3,1,1;").calls("evening() = 1; square(2) = 0; evening() = 1; square(2) = 3; evening() = 0");
    }

    private static void lateOnes() {
        String sentence = "a LATE one's as many as SOLVERS ahead of him SENT that WORD for that PLACE, and 1";
        Script.of(sentence + " (none)", SMALL + "s4,0,0;s0,0,0;s0,0,0;").calls("solver(0, 3) = 1; counts(0, 0, 0) = 3");
        Script.of(sentence + " (five)", SMALL + "s0,0,0;s1,0,0;s2,0,0;s3,0,0;s4,0,0;s4,0,0;").calls("solver(4, 3) = 5; solver(5, 3) = 6; counts(0, 0, 0) = 19");
        Script.of(sentence + " (all LATE)", SMALL + "s4,0,0;s4,0,0;s4,0,0;s4,0,0;s4,0,0;s4,0,0;").calls("solver(0, 3) = 1; solver(5, 3) = 6; counts(0, 0, 0) = 21");
        Script.of(sentence + " (another WORD)", SMALL + "s0,0,1;s4,0,0;").calls("solver(1, 3) = 1");
        Script.of(sentence + " (another PLACE)", SMALL + "s0,1,0;s4,0,0;").calls("solver(1, 3) = 1");
        Script.of(sentence + " (one who does not SEND)", SMALL + "s3,1,0;s4,1,0;").calls("solver(0, 3) = 0; solver(1, 3) = 1; set(0, 0); solver(1, 3) = 2");
        Script.of(sentence + " (in a PLACE that is not there)", SMALL + "s0,4,0;s4,4,0;").calls("solver(1, 3) = 0");
    }

    private static void mostCountsFirst() {
        String sentence = "Then what was SENT is PRINTED, most counts first";
        Script.of(sentence, SMALL + "s0,0,0;s1,2,1;").calls("evening() = 1; square(0) = 3; square(1) = 0; square(2) = 4");
        Script.of(sentence + " (of several SOLVERS together)", SMALL + "s1,0,0;s0,2,1;s0,2,1;s0,2,1;").calls("evening() = 1; square(0) = 3; square(2) = 4");
        Script.of(sentence + " (one more)", SMALL + "s3,0,0;s4,2,1;s4,2,1;s0,2,1;").calls("counts(0, 0, 0) = 3; counts(2, 1, 0) = 4; evening() = 1; square(0) = 3");
    }

    private static void ofLikeOnes() {
        Script.of("of like ones the lowest PLACE", SMALL + "s0,2,0;s0,0,1;").calls("evening() = 1; square(0) = 3; square(1) = 4; square(2) = 0");
        Script.of("of like ones the lowest PLACE (two of each)", SMALL + "s1,3,1;s0,1,0;s0,1,0;").calls("evening() = 1; square(2) = 1; square(3) = 2; square(1) = 0");
        Script.of("then the lowest WORD", SMALL + "s0,0,1;s0,0,0;").calls("evening() = 1; square(0) = 1; square(1) = 2");
        Script.of("then the lowest WORD (not the first SOLVER)", SMALL + "s1,3,1;s1,3,0;").calls("evening() = 1; square(1) = 1; square(3) = 2");
    }

    private static void ifItFitsByThen() {
        String sentence = "each if it FITS by then";
        Script.of(sentence + " (another letter by then)", SMALL + "s1,0,0;s0,2,1;").calls("evening() = 1; square(0) = 1; square(2) = 0");
        Script.of(sentence + " (the same letter by then)", "g2,2;wab;wac;s1,0,0;s0,2,1;").calls("evening() = 2; square(0) = 1; square(2) = 3");
        // Places 0 and 1 are printed first; place 2 then bears its word, but none of its squares is empty.
        Script.of(sentence + " (FULL by then, with its own letters)", "g2,2;wab;wcd;wac;s1,0,0;s1,1,1;s0,2,2;").calls("evening() = 2; count(5) = 4; square(2) = 3; counts(2, 2, 0) = 0");
        Script.of(sentence + " (one that was left out makes no room)", SMALL + "s3,0,0;s1,2,1;s0,1,1;").calls("evening() = 2; square(0) = 1; square(2) = 3; square(3) = 4");
    }

    private static void howManyArePrinted() {
        String sentence = "10 evening: how many WORDS are PRINTED";
        Script.of(sentence + " (none SENT)", SMALL).calls("evening() = 0; evening() = 0");
        Script.of(sentence + " (six)", "g3,4;waaaa;waaa;s0,0,0;s0,1,0;s0,3,1;s0,4,1;s0,5,1;s0,6,1;").calls("evening() = 6; count(5) = 12; evening() = 0");
        Script.of(sentence + " (one WORD in two PLACES)", SMALL + "s0,0,0;s0,1,0;").calls("evening() = 2");
        Script.of(sentence + " (one WORD SENT by six)", SMALL + "s0,0,0;s0,0,0;s1,0,0;s2,0,0;s3,0,0;s4,0,0;").calls("evening() = 1; count(5) = 2; evening() = 0");
        Script.of(sentence + " (with nothing PRINTED it can be UNDONE, too)", SMALL).calls("evening() = 0; count(7) = 1; undo() = 0");
    }

    private static void setByHand() {
        String sentence = "A WORD can be set by hand in a PLACE that it FITS";
        Script.of(sentence, SMALL).calls("set(0, 1) = 2; square(0) = 3; square(1) = 4; square(2) = 0; count(7) = 1");
        Script.of(sentence + " (the last of each)", SMALL).calls("set(3, 1) = 2; square(1) = 3; square(3) = 4; square(0) = 0");
    }

    private static void emptySquaresSet() {
        String sentence = "11 set: how many SQUARES were empty there";
        Script.of(sentence + " (all four)", "g4,4;wabcd;").calls("set(0, 0) = 4; count(5) = 4");
        Script.of(sentence + " (one)", "g4,4;wabcd;l0a;l1b;l2c;").calls("set(0, 0) = 1; count(5) = 4");
        Script.of(sentence + " (two of three)", "g3,3;wabc;l4b;").calls("set(1, 0) = 2; set(4, 0) = 2; count(5) = 5");
    }

    private static void settingThatDoesNotFit() {
        String sentence = "11 set: NO: it does not FIT";
        Script.of(sentence + " (too long)", "g2,2;wabc;").unchanged("set(0, 0) = NO");
        Script.of(sentence + " (too short)", "g3,3;wab;").unchanged("set(0, 0) = NO; set(5, 0) = NO");
        Script.of(sentence + " (another letter)", SMALL + "l1a;").unchanged("set(0, 0) = NO; set(0, 1) = NO; set(3, 1) = NO");
        Script.of(sentence + " (FULL, of that WORD)", SMALL).calls("set(0, 0) = 2").unchanged("set(0, 0) = NO; set(0, 1) = NO");
    }

    private static void numbersOfSetting() {
        String sentence = "11 set: BAD";
        Script.of(sentence, SMALL + "l0a;").calls("keep(); strike(0)").unchanged("set(-1, 0) = BAD; set(4, 0) = BAD; set(7, 0) = BAD; set(8, 0) = BAD;"
                + "set(0, -1) = BAD; set(0, 2) = BAD; set(0, 9) = BAD; set(LOW, LOW) = BAD; set(HIGH, HIGH) = BAD; set(0, LOW) = BAD; set(HIGH, 0) = BAD");
        Script.of(sentence + " (of several the first)", SMALL).calls("set(0, 0)").unchanged("set(0, 2) = BAD; set(0, -1) = BAD; set(4, 0) = BAD; set(0, 1) = NO");
        Script.of(sentence + " (no PLACE)", "g2,2;b0;b3;wab;").unchanged("set(0, 0) = BAD");
    }

    private static void struckOut() {
        String sentence = "the letters of a PLACE STRUCK OUT (all SQUARES of it are empty)";
        Script.of(sentence, "g3,3;wabc;").calls("set(0, 0); set(3, 0); strike(0) = 3; square(0) = 0; square(1) = 0; square(2) = 0; square(3) = 2; square(6) = 3");
        Script.of(sentence + " (those of the PLACE alone)", "g2,2;wab;l0a;l1b;l2c;l3d;").calls("strike(3) = 2; square(0) = 1; square(1) = 0; square(2) = 3; square(3) = 0");
    }

    private static void lettersStruckOut() {
        String sentence = "12 strike: how many letters stood there";
        Script.of(sentence + " (one)", SMALL + "l0a;").calls("strike(0) = 1; count(5) = 0");
        Script.of(sentence + " (one of another PLACE)", SMALL).calls("set(0, 0); strike(2) = 1; square(0) = 0; square(1) = 2");
        Script.of(sentence + " (four)", "g4,4;wabcd;").calls("set(7, 0); strike(7) = 4; count(5) = 0; count(7) = 2");
    }

    private static void nothingToStrike() {
        String sentence = "12 strike: NO: none did";
        Script.of(sentence, SMALL + "l0a;s0,0,0;").unchanged("strike(1) = NO; strike(3) = NO").calls("strike(0) = 1").unchanged("strike(0) = NO; strike(2) = NO");
    }

    private static void numbersOfStriking() {
        String sentence = "12 strike: BAD";
        Script.of(sentence, SMALL + "l0a;").calls("keep(); set(0, 0)").unchanged("strike(-1) = BAD; strike(4) = BAD; strike(7) = BAD; strike(8) = BAD; strike(LOW) = BAD; strike(HIGH) = BAD");
        Script.of(sentence + " (no PLACE)", "g2,2;b0;b3;wab;l1a;").unchanged("strike(0) = BAD");
        Script.of(sentence + " (the last)", SMALL + "l3a;").calls("strike(3) = 1");
    }

    private static void wantingSomethingElse() {
        String sentence = "13 want: A SOLVER wants WORD w in PLACE p (0 to 7, be there one or not): the WORD he did";
        Script.of(sentence, SMALL + "s0,1,1;s4,0,0;").calls("want(0, 0, 0) = 1; solver(0, 1) = 0; solver(0, 2) = 0; solver(0, 3) = 1; solver(1, 1) = 0")
                .calls("want(0, 7, 1) = 0; solver(0, 1) = 7; solver(0, 2) = 1; solver(0, 3) = 0; want(0, 4, 1) = 1; solver(0, 1) = 4; solver(0, 3) = 0; want(1, 3, 1) = 0; solver(1, 0) = 4");
        Script.of(sentence + " (no PLACE at all)", "g2,2;b0;b3;wab;s0,0,0;").calls("want(0, 7, 0) = 0; solver(0, 1) = 7");
        Script.of(sentence + " (the same once more)", SMALL + "s0,1,1;").calls("want(0, 1, 1) = 1; count(7) = 1; solver(0, 1) = 1; undo() = 0; solver(0, 1) = 1");
    }

    private static void numbersOfWanting() {
        String sentence = "13 want: BAD";
        Script.of(sentence, SMALL + "s0,1,1;s4,0,0;").calls("want(1, 2, 1)").unchanged("want(-1, 0, 0) = BAD; want(2, 0, 0) = BAD; want(6, 0, 0) = BAD; want(LOW, 0, 0) = BAD;"
                + "want(HIGH, 0, 0) = BAD; want(0, -1, 0) = BAD; want(0, 8, 0) = BAD; want(0, LOW, 0) = BAD; want(0, HIGH, 0) = BAD; want(0, 0, -1) = BAD; want(0, 0, 2) = BAD;"
                + "want(0, 0, 9) = BAD; want(0, 0, LOW) = BAD; want(0, 0, HIGH) = BAD");
        Script.of(sentence + " (no SOLVER)", SMALL).unchanged("want(0, 0, 0) = BAD");
    }

    private static void undoneOneByOne() {
        String text = SMALL + "s0,0,0;";
        Script.of("UNDONE is the latest EVENING", text).calls("evening() = 1; undo() = 0; count(5) = 0; solver(0, 3) = 1");
        Script.of("UNDONE is the latest .. setting", text).calls("set(1, 1); undo() = 0; count(5) = 0");
        Script.of("UNDONE is the latest .. STRIKING", text + "l0a;l1c;l3d;").calls("strike(0) = 2; undo() = 0; square(0) = 1; square(1) = 3; square(3) = 4");
        Script.of("UNDONE is the latest .. wanting", text).calls("want(0, 5, 1); undo() = 0; solver(0, 1) = 0; solver(0, 2) = 0");
        Script.of("UNDONE is the latest", text).calls("set(1, 1); want(0, 5, 1); undo() = 1; square(2) = 3; solver(0, 1) = 0; undo() = 0; square(2) = 0");
    }

    private static void lastEight() {
        String sentence = "the last 8 can be";
        Script.of(sentence + " (eight)", SMALL + "s0,7,0;").calls("want(0, 0, 0); want(0, 1, 0); want(0, 2, 0); want(0, 3, 0); want(0, 4, 0); want(0, 5, 0); want(0, 6, 0); want(0, 7, 1)")
                .calls("count(7) = 8; undo() = 7; undo() = 6; undo() = 5; undo() = 4; undo() = 3; undo() = 2; undo() = 1; undo() = 0; solver(0, 1) = 7; solver(0, 2) = 0; undo() = NO");
        Script.of(sentence + " (nine)", SMALL + "s0,7,0;").calls("want(0, 0, 1); want(0, 1, 0); want(0, 2, 0); want(0, 3, 0); want(0, 4, 0); want(0, 5, 0); want(0, 6, 0); want(0, 7, 0); want(0, 0, 0)")
                .calls("count(7) = 8; undo() = 7; undo() = 6; undo() = 5; undo() = 4; undo() = 3; undo() = 2; undo() = 1; undo() = 0; solver(0, 1) = 0; solver(0, 2) = 1; undo() = NO; solver(0, 2) = 1");
        Script.of(sentence + " (letters of nine)", SMALL).calls("set(1, 1)").times(4, "set(0, 0); strike(0)").calls("count(7) = 8").times(8, "undo()")
                .calls("undo() = NO; square(2) = 3; square(3) = 4; square(0) = 0");
    }

    private static void lastEightWrapped() {
        Script script = Script.of("the last 8 can be (more than twice as many, some of them UNDONE between)", SMALL + "s0,0,0;");
        for (int i = 1; i <= 20; i++) {
            script.calls("want(0, " + i % 8 + ", 0); count(7) = " + Math.min(i, 8));
        }
        script.calls("undo() = 7; undo() = 6; undo() = 5; undo() = 4; solver(0, 1) = 0");
        for (int i = 1; i <= 6; i++) {
            script.calls("want(0, " + i + ", 1); count(7) = " + Math.min(4 + i, 8));
        }
        int[] placeThen = {5, 4, 3, 2, 1, 0, 7, 6};
        for (int i = 0; i < placeThen.length; i++) {
            script.calls("undo() = " + (7 - i) + "; solver(0, 1) = " + placeThen[i] + "; solver(0, 2) = " + (i < 5 ? 1 : 0));
        }
        script.calls("undo() = NO; solver(0, 1) = 6");
    }

    private static void howManyMore() {
        String sentence = "14 undo: UNDONE: how many more can be";
        Script.of(sentence, SMALL).calls("evening(); undo() = 0; evening(); evening(); undo() = 1; undo() = 0; count(7) = 0");
        Script.of(sentence + " (seven of eight)", SMALL).times(9, "evening()").calls("undo() = 7; evening(); undo() = 7; undo() = 6");
    }

    private static void nothingToUndo() {
        String sentence = "14 undo: NO";
        Script.of(sentence + " (at first)").unchanged("undo() = NO");
        Script.of(sentence, SMALL + "s0,0,0;").unchanged("undo() = NO").calls("evening(); undo() = 0").unchanged("undo() = NO").calls("evening() = 1; undo() = 0; undo() = NO");
    }

    private static void whatIsNotUndone() {
        String sentence = "14 undo: UNDONE is the latest EVENING, setting, STRIKING, wanting (and nothing else)";
        Script.of(sentence + ": what is told", SMALL + "s0,0,0;").calls("evening(); sent(0, true); undo() = 0; count(6) = 1");
        Script.of(sentence + ": what is KEPT", SMALL + "s0,0,0;").calls("evening(); keep(); undo() = 0; count(8) = 1; count(5) = 0; back() = 0; count(5) = 2");
        Script.of(sentence + ": THE TEXT", SMALL).calls("evening(); write(119); undo() = 0; count(9) = 14; evening(); wipe(); undo() = 0; count(9) = 0");
        Script.of(sentence + ": refused calls", SMALL + "s0,0,0;").calls("set(0, 0); set(0, 0) = NO; set(9, 0) = BAD; strike(1) = NO; strike(9) = BAD; want(0, 8, 0) = BAD; count(7) = 1; undo() = 0; count(5) = 0");
        Script.of(sentence + ": an UNDOING", SMALL).calls("set(0, 0); set(1, 1); undo() = 1; undo() = 0; undo() = NO; count(5) = 0");
    }
}
