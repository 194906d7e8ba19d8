/** What the tests share: answers that are due, and texts written whole. */
final class Check {
    static final int BAD = EveningCrossword.BAD, NO = EveningCrossword.NO;
    static final int FULL = EveningCrossword.FULL, NONE = EveningCrossword.NONE;

    private static int wrong = 0;

    private Check() {
    }

    static void due(String call, long got, long want) {
        if (got != want) {
            wrong++;
            System.out.println(call + " answered " + got + ", due is " + want);
        }
    }

    static void same(String what, String got, String want) {
        if (!got.equals(want)) {
            wrong++;
            System.out.println(what + " is\n" + got + "\nand not\n" + want);
        }
    }

    static void finish() {
        if (wrong != 0) {
            System.out.println(wrong + " answers are not as due");
            System.exit(1);
        }
    }

    static void writeAll(EveningCrossword x, String text) {
        for (int i = 0; i < text.length(); i++) {
            x.write(text.charAt(i));
        }
    }

    /** A new object on which the text is laid. */
    static EveningCrossword laid(String text) {
        EveningCrossword x = new EveningCrossword();
        writeAll(x, text);
        if (x.lay() < 0) {
            due("lay() of " + text, x.fault(), NONE);
        }
        return x;
    }
}
