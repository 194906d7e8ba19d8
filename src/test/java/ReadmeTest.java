import java.io.IOException;
import java.lang.reflect.Method;
import java.lang.reflect.Modifier;
import java.nio.file.Files;
import java.nio.file.Path;
import java.util.List;
import java.util.regex.Matcher;
import java.util.regex.Pattern;
import java.util.stream.Stream;

/** What README.md says of the class and of its tests is so. */
public final class ReadmeTest {
    private static final Path PAGE = Path.of("README.md"), TESTS = Path.of("src/test/java");
    private static final Pattern TEXT = Pattern.compile("String text = \"([^\"]*)\";");
    private static final Pattern LINE = Pattern.compile("x\\.(\\w+\\([^)]*\\)); +// (\\d+|BAD|NO|FULL|NONE)\\b");
    private static final Pattern ITEM = Pattern.compile("(?m)^\\| `([^`]*;)` \\|");

    public static void main(String[] args) throws IOException {
        String page = Files.readString(PAGE);
        exampleAnswersSo(page);
        itemsCanBeLaid(page);
        everyCallIsNamed(page);
        everyTestIsNamed(page);
        Check.finish();
    }

    private static void isSo(String what, boolean so) {
        Check.due(what, so ? 1 : 0, 1);
    }

    private static void exampleAnswersSo(String page) {
        Matcher text = TEXT.matcher(page);
        isSo("README.md: the example has a text", text.find());
        Script script = Script.of("README.md").text(text.group(1));
        Matcher line = LINE.matcher(page);
        int lines = 0;
        while (line.find()) {
            script.calls(line.group(1) + " = " + line.group(2));
            lines++;
        }
        long calls = page.lines().filter(one -> one.startsWith("x.")).count();
        Check.due("README.md: calls of the example with an answer", lines, calls);
        isSo("README.md: the example has calls", lines > 0);
    }

    private static void itemsCanBeLaid(String page) {
        StringBuilder all = new StringBuilder();
        StringBuilder kinds = new StringBuilder();
        Matcher item = ITEM.matcher(page);
        while (item.find()) {
            boolean isSolver = item.group(1).startsWith("s");
            // He wants word 3, so four words are told ahead.
            all.append(isSolver ? "waa;wbb;wcc;" : "").append(item.group(1));
            kinds.append(item.group(1).charAt(0));
        }
        Check.same("README.md: the kinds of items", kinds.toString(), "gbwls");
        Script.faults("README.md: the items", Check.NONE, all.toString());
    }

    private static void everyCallIsNamed(String page) {
        for (Method method : EveningCrossword.class.getDeclaredMethods()) {
            if (Modifier.isPublic(method.getModifiers())) {
                isSo("README.md names " + method.getName(), page.contains("`" + method.getName() + "`"));
            }
        }
    }

    private static void everyTestIsNamed(String page) throws IOException {
        List<String> names;
        try (Stream<Path> files = Files.list(TESTS)) {
            names = files.map(file -> file.getFileName().toString().replace(".java", ""))
                    .filter(name -> name.endsWith("Test")).toList();
        }
        isSo("there are tests", !names.isEmpty());
        for (String name : names) {
            isSo("README.md names " + name, page.contains("`" + name + "`"));
        }
    }
}
