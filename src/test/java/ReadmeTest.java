import java.io.IOException;
import java.lang.reflect.Method;
import java.lang.reflect.Modifier;
import java.nio.file.Files;
import java.nio.file.Path;
import java.util.ArrayList;
import java.util.List;
import java.util.Set;
import java.util.TreeSet;
import java.util.regex.Matcher;
import java.util.regex.Pattern;

/** README.md does what it says: its example, its commands and its tables are taken from it as they stand. */
public final class ReadmeTest {
    private static final Path README = Path.of("README.md");
    private static final Path SOURCES = Path.of("src");
    private static final int COMMAND_OF_EXAMPLE = 0;
    private static final int COMMAND_OF_TESTS = 1;
    private static final int COMMAND_OF_ONE_TEST = 2;

    private final Check check = new Check();
    private final String text = Files.readString(README);
    private final List<String> commands = blocks("sh");

    private ReadmeTest() throws IOException {
    }

    public static void main(String[] args) throws IOException, InterruptedException {
        ReadmeTest test = new ReadmeTest();
        test.commandsThere();
        try (Scratch scratch = new Scratch()) {
            for (Path file : Scratch.filesUnder(SOURCES)) {
                scratch.copy(file, scratch.root.resolve(file));
            }
            test.example(scratch);
            test.oneTest(scratch);
        }
        test.tableOfCalls();
        test.tableOfTests();
        test.check.end();
    }

    private void commandsThere() {
        check.due("how many commands", commands.size(), 3);
        check.due("the command for the tests", commands.get(COMMAND_OF_TESTS), ".ci/run\n");
        check.due("it can be run", Files.isExecutable(Path.of(".ci/run")), true);
    }

    private void example(Scratch scratch) throws IOException, InterruptedException {
        scratch.write(scratch.root.resolve("Example.java"), onlyBlock("java"));
        Shell shell = new Shell(scratch.root, commands.get(COMMAND_OF_EXAMPLE));
        check.due("the example's exit code", shell.exit(), 0);
        check.due("the example", shell.printed(), onlyBlock("text"));
    }

    private void oneTest(Scratch scratch) throws IOException, InterruptedException {
        Matcher said = Pattern.compile("prints `([^`]*)` as its last line").matcher(text);
        check.due("a last line is told", said.find(), true);
        Shell shell = new Shell(scratch.root, commands.get(COMMAND_OF_ONE_TEST));
        check.due("one test's exit code", shell.exit(), 0);
        String[] lines = shell.printed().split("\n");
        check.due("one test's last line", lines[lines.length - 1], said.group(1));
    }

    private void tableOfCalls() {
        Set<String> calls = new TreeSet<>();
        for (Method method : LockstepField.class.getDeclaredMethods()) {
            if (Modifier.isPublic(method.getModifiers())) {
                calls.add(method.getName() + " with " + method.getParameterCount());
            }
        }
        Set<String> told = new TreeSet<>();
        Matcher row = Pattern.compile("^\\| `(\\w+)\\(([^)]*)\\)` \\|", Pattern.MULTILINE).matcher(text);
        while (row.find()) {
            int parameters = row.group(2).isEmpty() ? 0 : row.group(2).split(",").length;
            told.add(row.group(1) + " with " + parameters);
        }
        check.due("the table of calls", told.toString(), calls.toString());
    }

    private void tableOfTests() throws IOException {
        Set<String> tests = new TreeSet<>();
        for (Path file : Scratch.filesUnder(SOURCES.resolve("test/java"))) {
            String name = file.getFileName().toString();
            if (name.endsWith("Test.java")) {
                tests.add(name.substring(0, name.length() - ".java".length()));
            }
        }
        Set<String> told = new TreeSet<>();
        Matcher row = Pattern.compile("^\\| `(\\w+Test)` \\|", Pattern.MULTILINE).matcher(text);
        while (row.find()) {
            told.add(row.group(1));
        }
        check.due("the table of tests", told.toString(), tests.toString());
    }

    private String onlyBlock(String language) {
        List<String> found = blocks(language);
        check.due("how many blocks of " + language, found.size(), 1);
        return found.get(0);
    }

    private List<String> blocks(String language) {
        List<String> found = new ArrayList<>();
        Matcher block = Pattern.compile("^```" + language + "\n(.*?)^```$", Pattern.MULTILINE | Pattern.DOTALL)
            .matcher(text);
        while (block.find()) {
            found.add(block.group(1));
        }
        return found;
    }
}
