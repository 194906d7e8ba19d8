import java.util.Random;

/** Drawn runs of calls, the same ones each time, on the class and on the model. */
public final class ModelTest {
    private static final int RUNS = 1500, CALLS = 120;

    private final Random random;
    private EveningCrossword x;
    private Model model;
    private String told;

    private ModelTest(long seed) {
        random = new Random(seed);
    }

    public static void main(String[] args) {
        ModelTest test = new ModelTest(17);
        for (int run = 0; run < RUNS; run++) {
            test.runOnce(run);
        }
        Check.finish();
    }

    private void runOnce(int run) {
        x = new EveningCrossword();
        model = new Model();
        told = "run " + run + ":";
        if (random.nextInt(10) > 0) {
            layText();
        }
        for (int i = 0; i < CALLS; i++) {
            call();
        }
        askAll();
    }

    private void due(String call, int got, int want) {
        Check.due(told + " " + call, got, want);
    }

    private void layText() {
        due("wipe()", x.wipe(), model.wipe());
        StringBuilder text = new StringBuilder(drawText());
        if (random.nextInt(5) == 0) {
            spoil(text);
        }
        for (int i = 0; i < text.length(); i++) {
            due("write", x.write(text.charAt(i)), model.write(text.charAt(i)));
        }
        told = told + " " + text;
        due("fault()", x.fault(), model.fault());
        due("lay()", x.lay(), model.lay());
    }

    private void spoil(StringBuilder text) {
        String signs = "gbwls;,0123459abcdef x";
        for (int i = 0; i <= random.nextInt(3); i++) {
            int at = random.nextInt(text.length());
            char sign = signs.charAt(random.nextInt(signs.length()));
            switch (random.nextInt(3)) {
                case 0 -> text.setCharAt(at, sign);
                case 1 -> text.insert(at, sign);
                default -> text.deleteCharAt(at);
            }
        }
    }

    private String drawText() {
        StringBuilder text = new StringBuilder();
        int rows = 3;
        int columns = 4;
        if (random.nextInt(8) > 0) {
            rows = 2 + random.nextInt(3);
            columns = 2 + random.nextInt(3);
            text.append('g').append(rows).append(',').append(columns).append(';');
        }
        int squares = rows * columns;
        int black = random.nextInt(4);
        for (int i = 0; i < black; i++) {
            text.append('b').append(random.nextInt(squares)).append(';');
        }
        int kindsOfLetter = 1 + random.nextInt(6);
        int words = 1 + random.nextInt(9);
        for (int i = 0; i < words; i++) {
            drawWord(text, kindsOfLetter, random.nextBoolean() ? rows : columns);
        }
        int letters = random.nextInt(4);
        for (int i = 0; i < letters; i++) {
            text.append('l').append(random.nextInt(squares)).append((char) ('a' + random.nextInt(kindsOfLetter))).append(';');
        }
        int solvers = random.nextInt(7);
        for (int i = 0; i < solvers; i++) {
            text.append('s').append(random.nextInt(5)).append(',').append(random.nextInt(random.nextBoolean() ? 3 : 8));
            text.append(',').append(random.nextInt(random.nextInt(8) == 0 ? 9 : 1 + words / 2)).append(';');
        }
        return text.toString();
    }

    private void drawWord(StringBuilder text, int kindsOfLetter, int likely) {
        // A word that is told already would be a fault: tried a few times, then left out.
        for (int i = 0; i < 6; i++) {
            StringBuilder word = new StringBuilder("w");
            int length = random.nextInt(3) > 0 ? likely : 2 + random.nextInt(3);
            for (int k = 0; k < length; k++) {
                word.append((char) ('a' + random.nextInt(kindsOfLetter)));
            }
            word.append(';');
            if (text.indexOf(word.toString()) < 0 || random.nextInt(40) == 0) {
                text.append(word);
                return;
            }
        }
    }

    /** Mostly a number that is there, now and then one that is not. */
    private int draw(int count) {
        if (random.nextInt(100) == 0) {
            return random.nextBoolean() ? Integer.MIN_VALUE : Integer.MAX_VALUE;
        }
        return random.nextInt(12) == 0 || count <= 0 ? random.nextInt(24) - 4 : random.nextInt(count);
    }

    private void call() {
        int p = draw(x.count(2));
        int w = draw(x.count(3));
        int s = draw(x.count(4));
        int i = draw(x.count(0));
        switch (random.nextInt(12)) {
            case 0 -> due("evening()", x.evening(), model.evening());
            case 1, 2 -> due("set(" + p + ", " + w + ")", x.set(p, w), model.set(p, w));
            case 3 -> due("strike(" + p + ")", x.strike(p), model.strike(p));
            case 4, 5 -> due("want(" + s + ", " + p + ", " + w + ")", x.want(s, p, w), model.want(s, p, w));
            case 6 -> tell(s);
            case 7 -> callRarely();
            default -> ask(p, w, s, i);
        }
    }

    private void tell(int s) {
        boolean did = random.nextBoolean();
        due("sent(" + s + ", " + did + ")", x.sent(s, did), model.sent(s, did));
    }

    private void callRarely() {
        switch (random.nextInt(12)) {
            case 0 -> layText();
            case 1 -> due("forget()", x.forget(), model.forget());
            case 2, 3 -> due("keep()", x.keep(), model.keep());
            case 4, 5 -> due("back()", x.back(), model.back());
            default -> due("undo()", x.undo(), model.undo());
        }
    }

    private void ask(int p, int w, int s, int i) {
        int z = random.nextInt(10) == 0 ? draw(3) : random.nextInt(10000);
        int n = draw(41);
        int part = draw(2);
        int tenths = draw(11);
        switch (random.nextInt(12)) {
            case 0 -> due("behind(" + n / 2 + ", " + i + ")", x.behind(n / 2, i), model.behind(n / 2, i));
            case 1 -> due("fillings(" + p + ")", x.fillings(p), model.fillings(p));
            case 2 -> due("must(" + i + ")", x.must(i), model.must(i));
            case 3 -> due("best()", x.best(), model.best());
            case 4 -> due("counts(" + p + ", " + w + ", " + part + ")", x.counts(p, w, part), model.counts(p, w, part));
            case 5, 6 -> due("win(" + p + ", " + w + ")", x.win(p, w), model.win(p, w));
            case 7 -> due("wants(" + s + ")", x.wants(s), model.wants(s));
            case 8 -> due("letters(" + i + ")", x.letters(i), model.letters(i));
            case 9, 10 -> due("chance(" + p + ", " + w + ", " + tenths + ", " + part + ")",
                    x.chance(p, w, tenths, part), model.chance(p, w, tenths, part));
            default -> due("weeks(" + z + ", " + n + ", " + part + ")", x.weeks(z, n, part), model.weeks(z, n, part));
        }
    }

    private void askAll() {
        for (int a = -1; a <= 17; a++) {
            due("square(" + a + ")", x.square(a), model.square(a));
            due("count(" + a + ")", x.count(a), model.count(a));
            due("fillings(" + (a - 1) + ")", x.fillings(a - 1), model.fillings(a - 1));
            for (int b = -2; b <= 5; b++) {
                due("place(" + a + ", " + b + ")", x.place(a, b), model.place(a, b));
                due("word(" + a + ", " + b + ")", x.word(a, b), model.word(a, b));
                due("solver(" + a + ", " + b + ")", x.solver(a, b), model.solver(a, b));
            }
        }
        due("dead()", x.dead(), model.dead());
    }
}
