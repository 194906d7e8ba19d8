import java.io.IOException;
import java.lang.reflect.Constructor;
import java.lang.reflect.Field;
import java.lang.reflect.Method;
import java.lang.reflect.Modifier;
import java.nio.file.Files;
import java.nio.file.Path;
import java.util.ArrayList;
import java.util.List;
import java.util.Set;
import java.util.TreeSet;
import java.util.regex.Matcher;
import java.util.regex.Pattern;

/** The public face, and those rules of LANGUAGE.md that can be seen from outside or in the source. */
public final class LanguageTest {
    private static final String SOURCE = "src/main/java/EveningCrossword.java";
    private static final Set<String> FACE = Set.of("write(int)", "wipe()", "fault()", "lay()", "square(int)",
            "place(int,int)", "word(int,int)", "solver(int,int)", "evening()", "set(int,int)", "strike(int)",
            "want(int,int,int)", "undo()", "behind(int,int)", "fillings(int)", "must(int)", "best()", "dead()",
            "counts(int,int,int)", "win(int,int)", "sent(int,boolean)", "forget()", "wants(int)", "letters(int)",
            "chance(int,int,int,int)", "weeks(int,int,int)", "keep()", "back()", "count(int)");
    private static final Set<String> CONSTANTS = Set.of("BAD", "NO", "FULL", "NONE");
    private static final String[] NEVER = {"->", "::", "\\btry\\b", "\\bcatch\\b", "\\bthrows?\\b", "\\bfinally\\b",
        "\\bsynchronized\\b", "\\bassert\\b", "\\bpackage\\b", "Exact\\b", "\\bdouble\\b", "\\bfloat\\b", "\\bthread",
        "\\bstatic\\s*\\{", "\\bwhile\\s*\\(\\s*true", "for\\s*\\(\\s*;\\s*;"};

    public static void main(String[] args) throws IOException {
        face();
        constants();
        classesInside();
        source();
        Check.finish();
    }

    private static void isSo(String what, boolean so) {
        Check.due(what, so ? 1 : 0, 1);
    }

    private static String told(Method method) {
        List<String> types = new ArrayList<>();
        for (Class<?> type : method.getParameterTypes()) {
            types.add(type.getName());
        }
        return method.getName() + "(" + String.join(",", types) + ")";
    }

    private static void face() {
        Class<?> outer = EveningCrossword.class;
        isSo("rule 1: public and final", Modifier.isPublic(outer.getModifiers()) && Modifier.isFinal(outer.getModifiers()));
        Set<String> seen = new TreeSet<>();
        for (Method method : outer.getDeclaredMethods()) {
            if (!Modifier.isPrivate(method.getModifiers())) {
                seen.add(told(method));
                isSo("rule 1: " + told(method) + " is public and answers int", method.getReturnType() == int.class
                        && Modifier.isPublic(method.getModifiers()) && !Modifier.isStatic(method.getModifiers()));
            }
        }
        isSo("rule 1: the face is " + seen, seen.equals(FACE));
        Constructor<?>[] constructors = outer.getDeclaredConstructors();
        isSo("rule 1: one constructor", constructors.length == 1 && constructors[0].getParameterCount() == 0
                && Modifier.isPublic(constructors[0].getModifiers()));
    }

    private static void constants() {
        Check.due("BAD", EveningCrossword.BAD, -1);
        Check.due("NO", EveningCrossword.NO, -2);
        Check.due("FULL", EveningCrossword.FULL, -3);
        Check.due("NONE", EveningCrossword.NONE, -4);
        Set<String> seen = new TreeSet<>();
        for (Field field : EveningCrossword.class.getDeclaredFields()) {
            if (!Modifier.isPrivate(field.getModifiers())) {
                seen.add(field.getName());
            }
        }
        isSo("rule 1: the constants are " + seen, seen.equals(CONSTANTS));
    }

    private static void classesInside() {
        Set<String> names = new TreeSet<>();
        for (String one : FACE) {
            names.add(one.substring(0, one.indexOf('(')));
        }
        Class<?>[] inside = EveningCrossword.class.getDeclaredClasses();
        isSo("rule 11: some twelve classes", inside.length < 12);
        checkClass(EveningCrossword.class, names);
        for (Class<?> one : inside) {
            isSo("rule 1: " + one + " is private and static", Modifier.isStatic(one.getModifiers())
                    && Modifier.isPrivate(one.getModifiers()));
            checkClass(one, names);
        }
    }

    private static void checkClass(Class<?> one, Set<String> names) {
        int fields = 0;
        for (Field field : one.getDeclaredFields()) {
            boolean isStatic = Modifier.isStatic(field.getModifiers());
            fields += isStatic ? 0 : 1;
            isSo("rule 5: " + field + " is final", !isStatic || Modifier.isFinal(field.getModifiers()));
        }
        isSo("rule 11: fields of " + one, fields <= 20);
        for (Method method : one.getDeclaredMethods()) {
            isSo("rule 11: parameters of " + method, method.getParameterCount() <= 7);
            boolean isFace = Modifier.isPublic(method.getModifiers());
            isSo("rule 1: the name of " + method, isFace || !names.contains(method.getName()));
        }
    }

    private static void source() throws IOException {
        String whole = Files.readString(Path.of(SOURCE));
        isSo("signs of the source", whole.chars().allMatch(c -> c == '\n' || c >= 32 && c < 127));
        String code = whole.replaceAll("(?s)/\\*.*?\\*/", "").replaceAll("//[^\n]*", "")
                .replaceAll("\"[^\"\n]*\"", "\"\"");
        for (String never : NEVER) {
            Matcher found = Pattern.compile(never).matcher(code);
            isSo("never in the source: " + never, !found.find());
        }
        Matcher imports = Pattern.compile("import ([^;]*);").matcher(code);
        while (imports.find()) {
            isSo("rule 4: " + imports.group(), imports.group(1).equals("java.util.Arrays"));
        }
        methodsAreShort(whole);
        madeOnlyWithTheObject(code);
    }

    private static void methodsAreShort(String whole) {
        int since = 0;
        int number = 0;
        for (String line : whole.split("\n")) {
            number++;
            if (line.matches("( {4}| {8})\\S.*\\) \\{")) {
                since = number;
            }
            isSo("rule 11: the method at line " + since, !line.matches("( {4}| {8})}") || number - since <= 60);
        }
    }

    /** Rows are made with the object and used again, so that no call takes room. */
    private static void madeOnlyWithTheObject(String code) {
        for (String line : code.split("\n")) {
            boolean isField = line.matches("\\s*private (final )?\\S+ \\w+ = new .*");
            boolean isInConstructorOfPile = line.matches("\\s*\\w+ = new int\\[most \\* \\w+];");
            isSo("made by a call: " + line.strip(), !line.contains("new ") || isField || isInConstructorOfPile);
        }
    }
}
