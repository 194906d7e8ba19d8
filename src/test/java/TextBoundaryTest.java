/** "What it is", FAULT and LAID, promises 1 to 5: a test for each sentence that names a boundary case. */
public final class TextBoundaryTest {
    private static final int NONE = Check.NONE;
    private static final String NINE = "waa;wab;wac;wad;wae;waf;wba;wbb;wbc;";
    private static final String SIX = "wab;s0,0,0;s0,0,0;s1,0,0;s2,0,0;s3,0,0;s4,0,0;";

    public static void main(String[] args) {
        lengthOfTheText();
        endsOfItems();
        figuresOfNumbers();
        sizesOfGrids();
        gridsNotTold();
        gridsAhead();
        orderOfSquares();
        blackSquares();
        lettersOfWords();
        lengthsOfWords();
        wordsToldAhead();
        nineWords();
        squaresOfLetters();
        lettersThatStand();
        lastLetterOfEach();
        lettersInBlackOnes();
        kindsOfSolvers();
        placesOfSolvers();
        wordsOfSolvers();
        sixSolvers();
        callsOfAnObject();
        firstFault();
        aWordAtLeast();
        newObject();
        lettersWritten();
        fullText();
        wipedText();
        noFault();
        placesLaid();
        nothingLeftBehindLaying();
        nothingOfSheetsAhead();
        refusedLaying();
        Check.finish();
    }

    private static String ofTwoHundred(String last) {
        return "wab;" + "b0;".repeat(64) + last;
    }

    private static void lengthOfTheText() {
        String sentence = "A TEXT is letters (200 at most)";
        Script.of(sentence).text(ofTwoHundred("b00;"))
                .calls("count(9) = 200; fault() = NONE; lay() = 7; square(0) = NONE; square(1) = 0");
        Script.of(sentence).text(ofTwoHundred("b00;b1;"))
                .calls("count(9) = 200; fault() = NONE; lay() = 7; square(1) = 0");
        Script.of(sentence).text(ofTwoHundred("b000;")).calls("count(9) = 200; fault() = 196; lay() = NO");
        Script.of(sentence).text(ofTwoHundred("b0;b")).calls("count(9) = 200; fault() = 199; lay() = NO");
    }

    private static void endsOfItems() {
        String sentence = "ITEMS one behind the other, each a letter, then what it tells, and a ; behind it";
        Script.faults(sentence, NONE, "g2,2;b0;wab;l1a;s0,0,0;");
        Script.faults(sentence, 0, "g2,2", "b0", "wab", "l0a", ";", "g", "b", "w", "l", "s", "g2,2:", "b0,", "wab,",
                "l0a.", "g2,2 ;", " g2,2;", "x", "0;", "a;", "~", " ");
        Script.faults(sentence, 4, "wab;s0,0,0", "wab;;", "wab; ", "wab; wac;", "wab;x", "wab;W", "wab;s", "wab;s0",
                "wab;s0,", "wab;s0,0", "wab;s0,0,", "wab;b0", "wab;0", "wab;S0,0,0;");
    }

    private static void figuresOfNumbers() {
        String sentence = "numbers: one or two figures, parted by ,";
        Script.faults(sentence, NONE, "g2,2;", "g02,02;", "b0;", "b00;", "b09;", "b11;", "l0a;", "l00a;", "l11a;",
                "wab;s0,0,0;", "wab;s00,00,00;", "wab;s04,07,00;");
        Script.faults(sentence, 0, "g,2;", "g2,;", "g;", "g,;", "g002,2;", "g2,002;", "g2;2;", "g2 2;", "g22;", "g2,,2;",
                "g2,2,;", "g2,2,2;", "g/,2;", "g:,2;", "b;", "b000;", "b-1;", "b+1;", "b,;", "b0,;", "b0,0;", "b/;", "b:;",
                "b0/;", "b0:;", "la;", "l000a;", "l0,a;", "l;");
        Script.faults(sentence, 4, "wab;s,0,0;", "wab;s0,,0;", "wab;s0,0,;", "wab;s000,0,0;", "wab;s0,000,0;",
                "wab;s0,0,000;", "wab;s0,0;", "wab;s0;", "wab;s;", "wab;s0.0,0;", "wab;s0,0.0;", "wab;s0,0,0,;",
                "wab;s0,0,0,0;", "wab;s000;");
    }

    private static void sizesOfGrids() {
        String sentence = "gR,C a GRID of R rows of C SQUARES (2 to 4 each";
        Script.faults(sentence, 0, "g0,2;", "g1,2;", "g5,2;", "g2,0;", "g2,1;", "g2,5;", "g1,4;", "g4,1;", "g5,4;", "g4,5;",
                "g12,3;", "g3,12;", "g99,99;", "g20,2;", "g2,20;");
        for (int rows = 2; rows <= 4; rows++) {
            for (int columns = 2; columns <= 4; columns++) {
                int squares = rows * columns;
                Script.of(sentence, "g" + rows + "," + columns + ";wab;").calls("count(0) = " + squares + "; count(1) = "
                        + rows + "; count(2) = " + (rows + columns) + "; square(" + (squares - 1) + ") = 0; square("
                        + squares + ") = BAD; place(0, 1) = " + columns + "; place(" + rows + ", 1) = " + rows);
            }
        }
    }

    private static void gridsNotTold() {
        Script.of("3, 4 without", "wab;").calls("count(0) = 12; count(1) = 3; count(2) = 7; place(0, 1) = 4; place(3, 1) = 3");
        Script.of("3, 4 without: also behind another grid", "g2,2;wab;").calls("count(0) = 4; wipe()").text("wab;")
                .calls("lay() = 7; count(0) = 12; count(1) = 3");
        Script.faults("3, 4 without", NONE, "b11;", "l11a;");
        Script.faults("3, 4 without", 0, "b12;", "l12a;");
    }

    private static void gridsAhead() {
        String sentence = "no other ITEM ahead of it but g";
        Script.faults(sentence, NONE, "g2,2;g3,3;g4,4;b15;", "g4,4;g2,2;b3;");
        Script.faults(sentence, 10, "g4,4;g2,2;b4;", "g4,4;g2,2;l4a;", "g2,2;g2,2;g5,5;");
        Script.faults(sentence, 3, "b0;g2,2;");
        Script.faults(sentence, 4, "wab;g2,2;", "l0a;g2,2;", "wab;g5,5;");
        Script.faults(sentence, 11, "wab;s0,0,0;g3,4;");
        Script.faults(sentence, 8, "g2,2;b0;g2,2;");
        Script.of(sentence, "g2,4;g4,2;g2,3;wab;").calls("count(0) = 6; count(1) = 2; count(2) = 5");
    }

    private static void orderOfSquares() {
        Script.of("SQUARE 0 is the first of the first row, then along it, row by row", "g2,3;wab;wdef;")
                .calls("set(0, 1); square(0) = 4; square(1) = 5; square(2) = 6; square(3) = 0; square(5) = 0")
                .calls("place(0, 0) = 0; place(1, 0) = 3; place(2, 0) = 0; place(3, 0) = 1; place(4, 0) = 2");
    }

    private static void blackSquares() {
        String sentence = "bX SQUARE X is BLACK (no matter if told once more)";
        Script.faults(sentence, NONE, "b0;b0;b0;", "b5;b05;b5;");
        Script.of(sentence, "g2,2;b3;b3;b03;wab;").calls("count(2) = 2; square(3) = NONE; square(2) = 0; count(0) = 4");
        Script.of(sentence + " (the first and the last)", "g4,4;b0;b15;wab;")
                .calls("square(0) = NONE; square(15) = NONE; square(1) = 0; square(14) = 0");
        Script.faults(sentence + " (SQUARES: such as there are)", 5, "g2,2;b4;", "g2,2;b99;", "g3,3;b9;", "g4,4;b16;", "g2,4;b8;");
        Script.of(sentence + " (all of them)", "g2,2;b0;b1;b2;b3;wab;").calls("count(2) = 0; count(0) = 4; square(3) = NONE");
    }

    private static void lettersOfWords() {
        String sentence = "wAB.. a WORD of letters a to f";
        Script.faults(sentence, NONE, "waf;", "wfa;", "wabcd;", "wffff;", "waa;");
        Script.faults(sentence, 0, "wag;", "wga;", "wa`;", "w`a;", "wAB;", "wa1;", "w1a;", "wabg;", "wabcg;", "wa,b;", "wab ;");
        Script.of(sentence, "waf;").calls("word(0, 0) = 1; word(0, 1) = 6");
    }

    private static void lengthsOfWords() {
        String sentence = "two to four";
        Script.faults(sentence, NONE, "wab;", "wabc;", "wabcd;");
        Script.faults(sentence, 0, "w;", "wa;", "wabcde;", "wabcdef;", "waaaaaaaa;");
        Script.faults(sentence, 3, "b0;w;", "b0;wa;", "b0;wabcde;");
        Script.of(sentence, "wab;wabc;wabcd;").calls("word(0, -1) = 2; word(1, -1) = 3; word(2, -1) = 4");
    }

    private static void wordsToldAhead() {
        String sentence = "other than all told ahead";
        Script.faults(sentence, NONE, "wab;wba;", "waa;waaa;waaaa;", "wab;waba;wabab;");
        Script.faults(sentence, 4, "wab;wab;");
        Script.faults(sentence, 8, "wab;wac;wab;", "wab;wac;wac;");
        Script.faults(sentence, 32, NINE.substring(0, 32) + "waa;", NINE.substring(0, 32) + "wbb;");
        Script.faults(sentence, 9, "wabc;wab;wabc;", "wabc;wab;wab;");
    }

    private static void nineWords() {
        String sentence = "9 at most, 0, 1, ..";
        Script.faults(sentence, NONE, NINE, NINE + "b0;l1a;s0,0,8;");
        Script.faults(sentence, 36, NINE + "wbd;", NINE + "waa;", NINE + "wabcd;");
        Script.of(sentence, NINE).calls("count(3) = 9; word(0, 1) = 1; word(1, 1) = 2; word(8, 0) = 2; word(8, 1) = 3; word(9, 0) = BAD");
    }

    private static void squaresOfLetters() {
        String sentence = "lXA in SQUARE X (told as one or two figures)";
        Script.faults(sentence, NONE, "l0a;", "l00a;", "l9a;", "l09a;", "l11a;");
        Script.faults(sentence, 0, "l12a;", "l99a;", "la;", "l000a;", "l011a;");
        Script.faults(sentence, 5, "g2,2;l4a;", "g4,4;l16a;", "g3,3;l9a;");
        Script.of(sentence, "g4,4;wab;l00a;l1b;l09c;l15d;")
                .calls("square(0) = 1; square(1) = 2; square(9) = 3; square(15) = 4; count(5) = 4");
    }

    private static void lettersThatStand() {
        String sentence = "stands the letter A (a to f";
        Script.faults(sentence, 0, "l0`;", "l0g;", "l0A;", "l0;", "l01;", "l0 ;", "l0ab;", "l0a,;");
        Script.of(sentence, "wab;l0a;l1b;l2c;l3d;l4e;l5f;")
                .calls("square(0) = 1; square(1) = 2; square(2) = 3; square(3) = 4; square(4) = 5; square(5) = 6; square(6) = 0");
    }

    private static void lastLetterOfEach() {
        Script.of("the last one of each", "g2,2;wab;l0a;l3f;l0b;l0c;l3e;")
                .calls("square(0) = 3; square(3) = 5; count(5) = 2");
        Script.of("the last one of each (told as one figure and as two)", "g2,2;wab;l1f;l01a;").calls("square(1) = 1; count(5) = 1");
    }

    private static void lettersInBlackOnes() {
        String sentence = "in a BLACK one it does not";
        Script.of(sentence, "g2,2;b0;wab;l0a;").calls("square(0) = NONE; count(5) = 0");
        Script.of(sentence + " (told BLACK behind it)", "g2,2;wab;l0a;b0;").calls("square(0) = NONE; count(5) = 0; best() = 4");
        Script.of(sentence + " (nor in BEST)", "g2,2;wab;l0f;b0;b3;l3f;l1b;").calls("best() = 2; count(5) = 1");
    }

    private static void kindsOfSolvers() {
        String sentence = "sK,P,W a SOLVER of KIND K (0 PLAIN, 1 PARTY, 2 VOWEL, 3 LADY, 4 LATE)";
        Script.faults(sentence, 4, "wab;s5,0,0;", "wab;s9,0,0;", "wab;s10,0,0;", "wab;s40,0,0;", "wab;s99,0,0;", "wab;s-1,0,0;");
        Script.of(sentence, "wab;s0,0,0;s1,0,0;s2,0,0;s3,0,0;s4,0,0;s04,0,0;")
                .calls("solver(0, 0) = 0; solver(1, 0) = 1; solver(2, 0) = 2; solver(3, 0) = 3; solver(4, 0) = 4; solver(5, 0) = 4");
    }

    private static void placesOfSolvers() {
        String sentence = "in PLACE P (0 to 7)";
        Script.faults(sentence, 4, "wab;s0,8,0;", "wab;s0,9,0;", "wab;s0,10,0;", "wab;s0,70,0;", "wab;s0,99,0;");
        Script.of(sentence, "g2,2;wab;s0,0,0;s0,7,0;s0,07,0;s0,4,0;")
                .calls("solver(0, 1) = 0; solver(1, 1) = 7; solver(2, 1) = 7; solver(3, 1) = 4; count(2) = 4");
        Script.of(sentence + " (no PLACE at all)", "g2,2;b0;b3;wab;s0,7,0;").calls("count(2) = 0; solver(0, 1) = 7; solver(0, 3) = 0");
    }

    private static void wordsOfSolvers() {
        String sentence = "who wants WORD W (told ahead)";
        Script.faults(sentence, 0, "s0,0,0;", "s0,0,0;wab;");
        Script.faults(sentence, 4, "wab;s0,0,1;", "wab;s0,0,1;wba;", "wab;s0,0,99;", "wab;s0,0,10;");
        Script.faults(sentence, NONE, "wab;wba;s0,0,1;", "wab;s0,0,0;wba;s0,0,1;", NINE + "s0,0,8;", NINE + "s0,0,08;");
        Script.faults(sentence, 11, "wab;s0,0,0;s0,0,1;wba;");
        Script.faults(sentence, 36, NINE + "s0,0,9;");
    }

    private static void sixSolvers() {
        String sentence = "6 at most, 0, 1, ..";
        Script.faults(sentence, NONE, SIX, SIX + "wba;b0;l1a;");
        Script.faults(sentence, SIX.length(), SIX + "s0,0,0;", SIX + "s1,7,0;");
        Script.of(sentence, SIX).calls("count(4) = 6; solver(5, 0) = 4; solver(6, 0) = BAD");
        Script.of(sentence + " (none)", "wab;").calls("count(4) = 0; solver(0, 0) = BAD");
    }

    private static void callsOfAnObject() {
        String sentence = "An object is used for at most 512 calls after it has been made";
        Script.of(sentence).times(102, "evening() = 2; count(7) = 1; undo() = 0; square(1) = 0; undo() = NO")
                .calls("evening() = 2; square(1) = 1");
        Script.of(sentence).times(200, "write(119)").times(200, "write(119) = FULL").calls("wipe() = 200; wipe() = 0")
                .text("wab;").calls("fault() = NONE; lay() = 7").times(50, "write(59); fault() = 4")
                .calls("lay() = NO; count(9) = 54; count(2) = 7");
    }

    private static void firstFault() {
        String sentence = "FAULT: the place of the first letter of the first ITEM that is not so";
        Script.faults(sentence, 0, "x", "b12;b12;", "w;w;", "wabcde");
        Script.faults(sentence, 3, "b0;b12;b13;", "b0;x;y;", "b0;wa;wab;", "b0;s0,0,0;wab;");
        Script.faults(sentence, 4, "b10;b12;", "wab;l12a;");
        Script.faults(sentence, 12, "g2,2;b0;b01;b4;w;");
    }

    private static void aWordAtLeast() {
        String sentence = "LAID is a TEXT without FAULT, of a WORD at least (NO else";
        Script.of(sentence).calls("fault() = NONE; lay() = NO; count(3) = 7");
        Script.of(sentence).text("g2,2;b0;l1a;").calls("fault() = NONE; lay() = NO; count(0) = 12").text("wab;")
                .calls("lay() = 2; count(0) = 4; count(3) = 1");
        Script.of(sentence).text("wab;x").calls("lay() = NO; count(3) = 7");
        Script.of(sentence).text("wab").calls("lay() = NO; write(59) = 4; lay() = 7");
    }

    private static void newObject() {
        String sentence = "1 A new object: As told (at first g3,4;b5;wace;..)";
        Script.of(sentence).calls("count(0) = 12; count(1) = 3; count(2) = 6; count(3) = 7; count(4) = 6; count(5) = 1")
                .calls("count(6) = 0; count(7) = 0; count(8) = 0; count(9) = 0; square(0) = 6; square(5) = NONE")
                .calls("undo() = NO; back() = NO; forget() = 0; wipe() = 0; fault() = NONE; lay() = NO");
        Script.of(sentence + " (as if the text had been laid)",
                "g3,4;b5;wace;wbad;wfade;wcafe;wde;wabe;wfed;l0f;s0,0,2;s1,0,3;s2,1,4;s3,2,6;s4,0,3;s0,3,1;")
                .calls("count(2) = 6; count(3) = 7; count(4) = 6; count(5) = 1; place(5, 4) = 99; evening() = 2");
    }

    private static void lettersWritten() {
        String sentence = "2 write: A letter (32 to 126, as in ASCII) comes behind THE TEXT: how long it is. BAD";
        Script.of(sentence).unchanged("write(31) = BAD; write(127) = BAD; write(0) = BAD; write(-1) = BAD; write(10) = BAD;"
                + "write(128) = BAD; write(255) = BAD; write(288) = BAD; write(65568) = BAD; write(LOW) = BAD; write(HIGH) = BAD");
        Script.of(sentence).calls("write(32) = 1; write(126) = 2; write(31) = BAD; write(33) = 3; write(127) = BAD; write(125) = 4; count(9) = 4");
    }

    private static void fullText() {
        String sentence = "2 write: FULL";
        Script.of(sentence).times(199, "write(32)").calls("write(32) = 200; write(32) = FULL; write(126) = FULL; count(9) = 200");
        Script.of(sentence + " (of several the first)").times(200, "write(32)").calls("write(31) = BAD; write(127) = BAD; count(9) = 200");
        Script.of(sentence + " (nothing changes then)").text(ofTwoHundred("b00;")).unchanged("write(32) = FULL; write(31) = BAD")
                .calls("write(120) = FULL; fault() = NONE; lay() = 7");
    }

    private static void wipedText() {
        String sentence = "3 wipe: THE TEXT is empty: how long it was";
        Script.of(sentence).calls("wipe() = 0; wipe() = 0; write(119) = 1; wipe() = 1; wipe() = 0; count(9) = 0");
        Script.of(sentence).times(200, "write(32)").calls("write(32) = FULL; wipe() = 200; count(9) = 0; fault() = NONE; write(32) = 1");
        Script.of(sentence + " (the sheet stays)", "g2,2;wab;l0a;").calls("wipe() = 13; count(0) = 4; count(5) = 1; lay() = NO; count(0) = 4");
    }

    private static void noFault() {
        String sentence = "4 fault: NONE";
        Script.faults(sentence, NONE, "", "g3,4;", "b0;", "wab;", "l0a;");
        Script.of(sentence).calls("fault() = NONE; write(119) = 1; fault() = 0; write(97); fault() = 0; write(98); fault() = 0; write(59); fault() = NONE");
        Script.of(sentence + " (asking changes nothing)", "g2,2;wab;l0a;s0,0,0;").calls("evening(); keep(); sent(0, true)").text("b9;")
                .unchanged("fault() = 20");
    }

    private static void placesLaid() {
        String sentence = "5 lay: LAID: how many PLACES";
        Script.of(sentence).text("g2,2;b0;b3;wab;").calls("lay() = 0; count(2) = 0");
        Script.of(sentence).text("g2,2;b0;b1;b2;b3;wab;").calls("lay() = 0");
        Script.of(sentence).text("g2,2;b0;b1;wab;").calls("lay() = 1; count(2) = 1");
        Script.of(sentence).text("g4,4;wab;").calls("lay() = 8; count(2) = 8; lay() = 8; count(9) = 9");
    }

    private static void nothingLeftBehindLaying() {
        String text = "g2,2;wab;l0a;s0,0,0;";
        String ahead = "sent(0, true) = 1; sent(0, false) = 2; keep() = 1; keep() = 2; evening() = 1; want(0, 1, 0) = 0; lay() = 4";
        Script.of("5 lay: nothing SENT", text).calls(ahead).calls("count(6) = 0; wants(0) = 1; letters(1) = 127; forget() = 0; sent(0, true) = 1");
        Script.of("5 lay: nothing UNDONE", text).calls(ahead).calls("count(7) = 0; undo() = NO");
        Script.of("5 lay: nothing KEPT", text).calls(ahead).calls("count(8) = 0; back() = NO; keep() = 1; keep() = 2; keep() = FULL");
        Script.of("5 lay: letters and wants as told", text).calls(ahead).calls("square(0) = 1; square(1) = 0; solver(0, 1) = 0; count(5) = 1");
    }

    private static void nothingOfSheetsAhead() {
        Script script = Script.of("5 lay: LAID (nothing of the sheets laid ahead is left)", "g4,4;b0;b15;wabcd;wab;l1a;l14f;s4,7,1;s3,6,0;").calls("wipe()");
        script.text("g4,4;b0;wabc;wcd;l2b;s1,3,0;").calls("lay() = 8; wipe()").text("wef;").calls("lay() = 7; count(3) = 1; count(4) = 0; count(5) = 0; square(0) = 0; square(1) = 0; square(2) = 0")
                .calls("place(0, 4) = 0; dead() = 127; fillings(-1) = 0; wipe()").text("g2,2;wfe;").calls("lay() = 4; place(0, 4) = 1; dead() = 0; count(5) = 0; square(0) = 0; square(1) = 0");
        Script.of("5 lay: LAID (nor the letters of WORDS laid ahead)", "g2,2;wab;").calls("lay() = 4; wipe()").text("g2,2;wcd;l0a;")
                .calls("lay() = 4; place(0, 4) = 0; lay() = 4; place(0, 4) = 0; fault() = NONE; lay() = 4; place(0, 4) = 0; set(0, 0) = NO");
    }

    private static void refusedLaying() {
        String sentence = "5 lay: NO (nothing changes then)";
        String ahead = "sent(0, true); keep(); evening(); want(0, 1, 0); wipe()";
        String text = "g2,2;wab;l0a;s0,0,0;";
        Script.of(sentence, text).calls(ahead).unchanged("lay() = NO");
        Script.of(sentence, text).calls(ahead).text("g4,4;b0;l1f;").unchanged("lay() = NO");
        Script.of(sentence, text).calls(ahead).text("g4,4;b0;wffff;l1f;s4,7,0;x").unchanged("lay() = NO");
        Script.of(sentence, text).calls(ahead).text("g4,4;wffff;s4,7,1;").unchanged("lay() = NO")
                .calls("fault() = 11; lay() = NO; count(0) = 4; count(6) = 1; count(7) = 2; count(8) = 1; square(1) = 2");
    }
}
