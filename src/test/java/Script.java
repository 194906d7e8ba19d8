import java.lang.reflect.Method;
import java.util.ArrayList;
import java.util.List;

/**
 * A sentence of the document with a run of calls on one object, told as the document tells them:
 * "set(0, 0) = 2; undo() = 0; undo() = NO". A call without an answer is only made.
 */
final class Script {
    private static final int MOST_CALLS = 512;

    private final String sentence;
    private final EveningCrossword x = new EveningCrossword();
    private final List<String> made = new ArrayList<>();

    private Script(String sentence) {
        this.sentence = sentence;
    }

    /** A new object, on which nothing is written yet. */
    static Script of(String sentence) {
        return new Script(sentence);
    }

    /** A new object on which the text is laid. */
    static Script of(String sentence, String text) {
        Script script = new Script(sentence).text(text);
        Check.due(sentence + ": " + text + " can be laid", script.call("lay()") >= 0 ? 1 : 0, 1);
        return script;
    }

    /** Each text is written on a new object of its own; its FAULT. */
    static void faults(String sentence, int want, String... texts) {
        for (String text : texts) {
            Check.due(sentence + ": fault() of " + text, new Script(sentence).text(text).call("fault()"), want);
        }
    }

    Script text(String text) {
        for (int i = 0; i < text.length(); i++) {
            call("write(" + (int) text.charAt(i) + ")");
        }
        return this;
    }

    Script calls(String calls) {
        for (String one : calls.split(";")) {
            String[] sides = one.split("=");
            int got = call(sides[0].strip());
            if (sides.length == 2) {
                Check.due(sentence + ": " + one.strip().replaceAll(" *=.*", ""), got, number(sides[1].strip()));
            }
        }
        return this;
    }

    Script times(int times, String calls) {
        for (int i = 0; i < times; i++) {
            calls(calls);
        }
        return this;
    }

    /** The calls answer so, and an object on which they were made is as one on which they were not. */
    Script unchanged(String calls) {
        String without = again().wholeState();
        for (String one : calls.split(";")) {
            Check.same(sentence + ": state behind " + one.strip(), again().calls(one).wholeState(), without);
        }
        return this;
    }

    private Script again() {
        Script other = new Script(sentence);
        for (String call : made) {
            other.call(call);
        }
        return other;
    }

    private int call(String call) {
        made.add(call);
        if (made.size() > MOST_CALLS) {
            throw new IllegalStateException(sentence + ": more calls than the document allows");
        }
        String name = call.substring(0, call.indexOf('('));
        String inside = call.substring(call.indexOf('(') + 1, call.lastIndexOf(')')).strip();
        String[] told = inside.isEmpty() ? new String[0] : inside.split(",");
        for (Method method : EveningCrossword.class.getDeclaredMethods()) {
            if (method.getName().equals(name) && method.getParameterCount() == told.length) {
                return answer(method, told);
            }
        }
        throw new IllegalArgumentException("no such call: " + call);
    }

    private int answer(Method method, String[] told) {
        Object[] arguments = new Object[told.length];
        for (int i = 0; i < told.length; i++) {
            boolean isNumber = method.getParameterTypes()[i] == int.class;
            arguments[i] = isNumber ? (Object) number(told[i].strip()) : (Object) Boolean.valueOf(told[i].strip());
        }
        try {
            return (int) method.invoke(x, arguments);
        } catch (ReflectiveOperationException e) {
            throw new IllegalStateException(sentence + ": " + method.getName() + " threw", e);
        }
    }

    private static int number(String told) {
        return switch (told) {
            case "BAD" -> Check.BAD;
            case "NO" -> Check.NO;
            case "FULL" -> Check.FULL;
            case "NONE" -> Check.NONE;
            case "LOW" -> Integer.MIN_VALUE;
            case "HIGH" -> Integer.MAX_VALUE;
            default -> Integer.parseInt(told);
        };
    }

    /** All that can be seen of the object, what can be undone, what is kept and the text last. */
    private String wholeState() {
        StringBuilder state = new StringBuilder("counts");
        for (int what = 0; what <= 9; what++) {
            state.append(' ').append(x.count(what));
        }
        state.append(" fault ").append(x.fault()).append(" dead ").append(x.dead());
        int solvers = x.count(4);
        for (int s = 0; s < solvers; s++) {
            state.append(" wants ").append(x.wants(s));
        }
        int squares = x.count(0);
        for (int i = 0; i < squares; i++) {
            state.append(" letters ").append(x.letters(i));
        }
        addPaper(state, "now");
        for (int i = x.count(7); i > 0; i--) {
            state.append(" left ").append(x.undo());
            addPaper(state, "undone");
        }
        for (int i = x.count(8); i > 0; i--) {
            state.append(" left ").append(x.back());
            addPaper(state, "back");
        }
        state.append(" laid anew ").append(x.lay());
        addPaper(state, "anew");
        return state.toString();
    }

    private void addPaper(StringBuilder state, String name) {
        state.append('\n').append(name);
        int squares = x.count(0);
        for (int i = 0; i < squares; i++) {
            state.append(' ').append(x.square(i));
        }
        int solvers = x.count(4);
        for (int s = 0; s < solvers; s++) {
            state.append(" s").append(x.solver(s, 0)).append(',').append(x.solver(s, 1)).append(',').append(x.solver(s, 2));
        }
    }
}
