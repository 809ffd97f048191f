import java.io.IOException;
import java.lang.reflect.InvocationTargetException;
import java.lang.reflect.Method;
import java.lang.reflect.Modifier;
import java.nio.file.Files;
import java.nio.file.Path;
import java.util.Arrays;
import java.util.HashMap;
import java.util.Map;
import java.util.Set;
import java.util.TreeSet;
import java.util.regex.Matcher;
import java.util.regex.Pattern;
import java.util.stream.Collectors;
import java.util.stream.Stream;

/** README.md: what its example answers, and that what it names is there. Run from the project's folder. */
public final class ReadmeTest {
    private static final Pattern MADE = Pattern.compile("RingSeesaw seesaw = new RingSeesaw\\(\\); .*");
    private static final Pattern CALL =
            Pattern.compile("(?:int (\\w+) = )?seesaw\\.(\\w+)\\((.*?)\\); +// ([-.\\w]+)(?::.*)?");
    private static final Due due = new Due();

    public static void main(String[] args) throws IOException, ReflectiveOperationException {
        String page = Files.readString(Path.of("README.md"));
        example(between(page, "```java\n", "```"));
        calls(between(page, "The calls:", "## "));
        command(page);
        tests(between(page, "| test |", "\n\n"));
        due.end();
    }

    private static void example(String example) throws ReflectiveOperationException {
        String[] lines = example.split("\n");
        due.is("the example's first line makes an object:", true, MADE.matcher(lines[0]).matches());
        RingSeesaw seesaw = new RingSeesaw();
        Map<String, Integer> named = new HashMap<>();
        for (int line = 1; line < lines.length; line++) {
            Matcher call = CALL.matcher(lines[line]);
            boolean read = call.matches();
            due.is("is a call with its answer: " + lines[line], true, read);
            if (read) {
                String got = answer(seesaw, call.group(2), numbers(call.group(3), named));
                due.is("the example's " + lines[line], call.group(4), got);
                if (call.group(1) != null) {
                    named.put(call.group(1), Integer.valueOf(got));
                }
            }
        }
    }

    private static Object[] numbers(String given, Map<String, Integer> named) {
        return Arrays.stream(given.split(", *")).filter(word -> !word.isEmpty())
                .map(word -> named.containsKey(word) ? named.get(word) : Integer.valueOf(word)).toArray();
    }

    private static String answer(RingSeesaw seesaw, String name, Object[] given) throws ReflectiveOperationException {
        Class<?>[] types = new Class<?>[given.length];
        Arrays.fill(types, int.class);
        try {
            return String.valueOf(RingSeesaw.class.getMethod(name, types).invoke(seesaw, given));
        } catch (InvocationTargetException e) {
            return e.getCause().getClass().getSimpleName();
        }
    }

    private static void calls(String table) {
        Set<String> want = Arrays.stream(RingSeesaw.class.getDeclaredMethods())
                .filter(method -> Modifier.isPublic(method.getModifiers())).map(Method::getName)
                .collect(Collectors.toCollection(TreeSet::new));
        String rows = table.lines().filter(line -> line.startsWith("|")).collect(Collectors.joining("\n"));
        due.is("the calls that the page names", want, quoted(rows));
    }

    private static void command(String page) {
        String command = between(between(page, "## How to run the tests", "| test |"), "```sh\n", "\n```");
        due.is("the command for the tests", ".ci/run", command);
        due.is("the command can be run:", true, Files.isExecutable(Path.of(command)));
    }

    private static void tests(String table) throws IOException {
        Set<String> want;
        try (Stream<Path> files = Files.list(Path.of("src/test/java"))) {
            want = files.map(file -> file.getFileName().toString()).filter(name -> name.endsWith("Test.java"))
                    .map(name -> name.substring(0, name.length() - ".java".length()))
                    .collect(Collectors.toCollection(TreeSet::new));
        }
        Set<String> got = quoted(table);
        got.removeIf(name -> !name.endsWith("Test"));
        due.is("the tests that the page names", want, got);
    }

    private static Set<String> quoted(String text) {
        return Pattern.compile("`(\\w+)`").matcher(text).results().map(found -> found.group(1))
                .collect(Collectors.toCollection(TreeSet::new));
    }

    /** Nothing where the page has neither. */
    private static String between(String page, String start, String end) {
        int from = page.indexOf(start);
        int to = from < 0 ? -1 : page.indexOf(end, from + start.length());
        return to < 0 ? "" : page.substring(from + start.length(), to);
    }
}
