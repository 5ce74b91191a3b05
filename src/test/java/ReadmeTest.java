import java.io.IOException;
import java.lang.reflect.Field;
import java.lang.reflect.Method;
import java.lang.reflect.Modifier;
import java.nio.file.DirectoryStream;
import java.nio.file.Files;
import java.nio.file.Path;
import java.util.Set;
import java.util.TreeSet;
import java.util.regex.Matcher;
import java.util.regex.Pattern;

/** README.md: its example is played and must be answered as it says; no call, constant or test is left out of it. */
public final class ReadmeTest {
    private static final Path README = Path.of("README.md");
    private static final Path TESTS = Path.of("src/test/java");
    private static final Path ALL_TESTS = Path.of(".ci/run");
    private static final String MADE = "ItemFacts facts = new ItemFacts();";
    private static final Pattern CALL = Pattern.compile("facts\\.(\\w+)(\\([^()]*\\));\\s*// ([\\w-]+)(:.*)?");

    private static Runs runs;
    private static String readme;

    public static void main(String[] args) throws IOException {
        runs = new Runs(README);
        readme = Files.readString(README);
        Set<String> called = example();
        for (Method each : ItemFacts.class.getDeclaredMethods()) {
            if (Modifier.isPublic(each.getModifiers())) {
                told(called.contains(each.getName()), "in the example", each.getName());
                told(readme.contains("| `" + each.getName() + "("), "in the table", each.getName());
            }
        }
        for (Field each : ItemFacts.class.getDeclaredFields()) {
            if (Modifier.isPublic(each.getModifiers())) {
                told(readme.contains("`" + each.getName() + "`"), "among the answers", each.getName());
            }
        }
        tests();
        if (!runs.wentWell()) {
            System.exit(1);
        }
    }

    private static void told(boolean is, String where, String what) {
        if (!is) {
            runs.fail("README.md does not have " + what + " " + where);
        }
    }

    /** Plays the example; the names of the calls that it makes. */
    private static Set<String> example() {
        Set<String> called = new TreeSet<>();
        StringBuilder run = new StringBuilder();
        for (String line : between("```java\n", "```").split("\n")) {
            Matcher call = CALL.matcher(line);
            if (call.matches()) {
                called.add(call.group(1));
                run.append(call.group(1)).append(call.group(2)).append(" = ").append(call.group(3)).append(';');
            } else if (!line.equals(MADE)) {
                runs.fail("not a call with its answer: " + line);
            }
        }
        runs.hold("## Use", run.toString());
        return called;
    }

    private static String between(String from, String to) {
        int first = readme.indexOf(from);
        int last = first < 0 ? -1 : readme.indexOf(to, first + from.length());
        if (last < 0) {
            runs.fail("README.md has nothing between " + from.trim() + " and " + to);
            return "";
        }
        return readme.substring(first + from.length(), last);
    }

    private static void tests() throws IOException {
        told(readme.contains("\n## Tests\n") && readme.contains("\n" + ALL_TESTS + "\n"), "as what runs its tests",
            ALL_TESTS.toString());
        if (!Files.isExecutable(ALL_TESTS)) {
            runs.fail("what README.md tells to run cannot be run: " + ALL_TESTS);
        }
        try (DirectoryStream<Path> files = Files.newDirectoryStream(TESTS, "*.java")) {
            for (Path each : files) {
                String name = each.getFileName().toString().replace(".java", "");
                told(readme.contains("- `" + name + "`:"), "among the tests", name);
            }
        }
    }
}
