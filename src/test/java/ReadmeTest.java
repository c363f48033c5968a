import java.io.IOException;
import java.lang.reflect.Method;
import java.lang.reflect.Modifier;
import java.nio.file.Files;
import java.nio.file.Path;
import java.util.ArrayList;
import java.util.HashSet;
import java.util.List;
import java.util.Set;
import java.util.regex.Matcher;
import java.util.regex.Pattern;
import java.util.stream.Stream;

/** What README.md says: its example is run call by call, and what it names is there. */
public final class ReadmeTest {
    private static final Path README = Path.of("README.md");
    private static final Pattern CALL = Pattern.compile("x\\.(\\w+)\\(([-\\d, ]*)\\); +// (-?\\d+|[A-Z]+)(: .+)?");
    private static final Set<String> CONSTANTS = Set.of("UNKNOWN", "OUTSIDE", "STATE", "FULL", "NONE", "KIND", "INDEX");

    public static void main(String[] args) throws IOException, ReflectiveOperationException {
        String page = Files.readString(README);
        example(page);
        constants(page);
        tests(page);
        commands(page);
        Due.finish();
    }

    /** The lines of the page's blocks of this sort. */
    private static List<String> blocks(String page, String sort) {
        List<String> lines = new ArrayList<>();
        boolean within = false;
        for (String line : page.split("\n")) {
            if (line.startsWith("```")) {
                within = line.equals("```" + sort);
            } else if (within) {
                lines.add(line);
            }
        }
        return lines;
    }

    /** Each line of it is the object's making, a heading, empty, or a call with its answer: none goes unlooked at. */
    private static void example(String page) throws ReflectiveOperationException {
        IndentRules x = new IndentRules();
        Set<String> used = new HashSet<>();
        List<String> lines = blocks(page, "java");
        Due.check("it begins with a new object", !lines.isEmpty() && lines.get(0).equals("IndentRules x = new IndentRules();"));
        for (String line : lines.subList(Math.min(1, lines.size()), lines.size())) {
            Matcher call = CALL.matcher(line);
            if (call.matches()) {
                used.add(call.group(1));
                Due.due(line, ask(x, call.group(1), call.group(2)), number(call.group(3)));
            } else {
                Due.check("a heading, not a call: " + line, line.isEmpty() || line.startsWith("// "));
            }
        }
        for (Method method : IndentRules.class.getDeclaredMethods()) {
            if (Modifier.isPublic(method.getModifiers())) {
                Due.check("the example has " + method.getName(), used.contains(method.getName()));
            }
        }
    }

    private static int ask(IndentRules x, String name, String told) throws ReflectiveOperationException {
        String[] numbers = told.isEmpty() ? new String[0] : told.split(", ");
        Class<?>[] types = new Class<?>[numbers.length];
        Object[] arguments = new Object[numbers.length];
        for (int i = 0; i < numbers.length; i++) {
            types[i] = int.class;
            arguments[i] = Integer.valueOf(numbers[i]);
        }
        return (Integer) IndentRules.class.getMethod(name, types).invoke(x, arguments);
    }

    private static int number(String answer) throws ReflectiveOperationException {
        return CONSTANTS.contains(answer) ? IndentRules.class.getField(answer).getInt(null) : Integer.parseInt(answer);
    }

    private static void constants(String page) throws ReflectiveOperationException {
        for (String name : CONSTANTS) {
            Due.check("the page has " + name + " with its number", page.contains(name + " (" + number(name) + ")"));
        }
    }

    /** Every file of the tests has its name on the page, and every test that the page names has a file. */
    private static void tests(String page) throws IOException {
        Set<String> files = new HashSet<>();
        try (Stream<Path> paths = Files.list(Path.of("src/test/java"))) {
            paths.forEach(path -> files.add(path.getFileName().toString().replace(".java", "")));
        }
        for (String file : files) {
            Due.check("the page names " + file, page.contains("`" + file + "`"));
        }
        Matcher named = Pattern.compile("`(\\w+Test)`").matcher(page);
        while (named.find()) {
            Due.check(named.group(1) + " is there", files.contains(named.group(1)));
        }
    }

    /** The files and tests that its commands name are there. */
    private static void commands(String page) {
        List<String> lines = blocks(page, "sh");
        Due.due("commands: all tests, one of the project's, one of the shared ones", lines.size(), 3);
        for (String line : lines) {
            for (String word : line.split(" ")) {
                boolean file = word.contains("/") && !word.contains("*");
                Due.check(word + " is there", !file || Files.exists(Path.of(word)));
            }
        }
        Due.check("the script can be run", Files.isExecutable(Path.of(".ci/run")));
    }
}
