/** "BAD, NO, NONE, FULL. Of several the first; nothing changes then.", over all calls. */
public final class RefusalBoundaryTest {
    private static final String TEXT = "g2,2;b3;wab;wcd;l0a;s0,0,0;s3,1,1;";
    private static final String[] NUMBERS = {"square(?)", "place(?, 0)", "place(0, ?)", "word(?, 0)", "solver(?, 0)", "solver(0, ?)", "set(?, 0)", "set(0, ?)",
        "strike(?)", "want(?, 0, 0)", "want(0, ?, 0)", "want(0, 0, ?)", "behind(?, 0)", "behind(0, ?)", "fillings(?)", "must(?)", "counts(?, 0, 0)", "counts(0, ?, 0)",
        "counts(0, 0, ?)", "win(?, 0)", "win(0, ?)", "sent(?, true)", "sent(?, false)", "wants(?)", "letters(?)", "chance(?, 0, 0, 0)", "chance(0, ?, 0, 0)",
        "chance(0, 0, ?, 0)", "chance(0, 0, 0, ?)", "weeks(?, 1, 0)", "weeks(0, ?, 0)", "weeks(0, 1, ?)", "count(?)", "write(?)"};

    public static void main(String[] args) {
        farNumbers();
        everyCallOnAFullObject();
        everyCallOnAnEmptyObject();
        numbersOfTheSheetAsItIsNow();
        Check.finish();
    }

    private static void farNumbers() {
        String sentence = "BAD: a number is none that is told";
        for (String call : NUMBERS) {
            for (String number : new String[] {"LOW", "-2147483647", "-65536", "-256", "-2", "65536", "16777216", "1073741824", "2147483646", "HIGH"}) {
                Script.of(sentence, TEXT).calls(call.replace("?", number) + " = BAD");
            }
        }
        Script.of(sentence + " (but for the letters that a WORD has not)", TEXT).calls("word(0, LOW) = BAD; word(0, -2) = BAD; word(0, 16777216) = NONE; word(0, HIGH) = NONE");
    }

    /** Eight that can be undone, two kept, six told, a text of two hundred letters with a fault. */
    private static Script full(String sentence) {
        return Script.of(sentence, TEXT).calls("evening() = 1; keep() = 1; want(0, 1, 1); want(1, 0, 1); strike(0) = 2")
                .calls("set(0, 1) = 2; want(0, 7, 0); keep() = 2; want(1, 4, 0); want(0, 2, 1); want(0, 0, 1); evening() = 0")
                .calls("sent(0, true); sent(1, false); sent(0, true); sent(1, false); sent(1, true); sent(0, false)")
                .times(200 - TEXT.length(), "write(32)").calls("count(6) = 6; count(7) = 8; count(8) = 2; count(9) = 200");
    }

    private static void everyCallOnAFullObject() {
        full("Of several the first; nothing changes then (calls that are refused)").unchanged("write(31) = BAD; write(32) = FULL; lay() = NO; square(4) = BAD; place(2, 0) = BAD; place(0, 5) = BAD;"
                + "word(2, 9) = BAD; solver(2, 0) = BAD; solver(0, 4) = BAD; set(2, 0) = BAD; set(0, 0) = NO; strike(2) = BAD; want(2, 0, 0) = BAD; want(0, 8, 0) = BAD; want(0, 0, 2) = BAD;"
                + "behind(21, 3) = BAD; fillings(2) = BAD; must(4) = BAD; must(3) = NONE; counts(0, 0, 2) = BAD; win(2, 0) = BAD; sent(0, true) = FULL; sent(2, true) = BAD; wants(2) = BAD;"
                + "letters(4) = BAD; letters(3) = NO; chance(0, 0, 11, 0) = BAD; weeks(0, 41, 0) = BAD; keep() = FULL; count(10) = BAD");
        full("nothing changes (calls that only ask)").unchanged("fault() = " + TEXT.length() + "; square(0); place(0, 4); word(0, 0); solver(0, 3); behind(20, 0); fillings(-1); fillings(0);"
                + "must(0); best(); dead(); counts(0, 0, 0); counts(0, 1, 1); win(0, 0); win(1, 1); wants(0); letters(0); chance(0, 0, 5, 0); weeks(17, 40, 1); count(5)");
    }

    private static void everyCallOnAnEmptyObject() {
        Script.of("nothing changes then (nothing UNDONE, KEPT, told, written)").unchanged("undo() = NO; back() = NO; lay() = NO; wipe() = 0; forget() = 0; fault() = NONE; strike(1) = NO; set(0, 3) = NO");
        Script.of("nothing changes then (no SOLVER, no PLACE)", "g2,2;b0;b3;wab;l1a;").unchanged("set(0, 0) = BAD; strike(0) = BAD; want(0, 0, 0) = BAD; place(0, 0) = BAD; solver(0, 0) = BAD; fillings(0) = BAD;"
                + "counts(0, 0, 0) = BAD; win(0, 0) = BAD; sent(0, true) = BAD; wants(0) = BAD; chance(0, 0, 5, 0) = BAD; letters(0) = NO; must(0) = NONE; weeks(0, 1, 0) = 0; undo() = NO; back() = NO");
    }

    private static void numbersOfTheSheetAsItIsNow() {
        String sentence = "SQUARES, PLACES, WORDS, SOLVERS: such as there are";
        Script.of(sentence + " (fewer than at first)", TEXT).calls("square(3) = NONE; square(4) = BAD; place(1, 0) = 0; place(2, 0) = BAD; word(1, 0) = 3; word(2, 0) = BAD; solver(1, 0) = 3; solver(2, 0) = BAD")
                .calls("wipe()").text("g4,4;waa;wab;wac;wad;wae;waf;wba;wbb;wbc;s0,7,8;s0,0,0;s0,0,0;s0,0,0;s0,0,0;s1,0,0;")
                .calls("lay() = 8; square(15) = 0; square(16) = BAD; place(7, 0) = 3; place(8, 0) = BAD; word(8, 0) = 2; word(9, 0) = BAD; solver(5, 0) = 1; solver(6, 0) = BAD")
                .calls("wipe()").text("g2,2;b0;b1;wab;")
                .calls("lay() = 1; square(3) = 0; square(4) = BAD; place(0, 0) = 2; place(1, 0) = BAD; word(0, 0) = 1; word(1, 0) = BAD; solver(0, 0) = BAD");
    }
}
