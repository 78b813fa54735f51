import java.io.IOException;
import java.nio.file.Path;
import java.util.ArrayList;
import java.util.List;

/** The script .ci/run, copied into small projects, each with two tests of its own and two under ../shared/tests. */
public final class CiTest {
    private static final String SCRIPT = ".ci/run";
    private static final String CLASS = "src/main/java/LockstepField.java";
    private static final String[] OWN = {"OneTest", "TwoTest"};
    private static final String[] SHARED = {"OneRuns", "TwoRuns"};
    private static final String PASSES = "System.out.println(new LockstepField().begin());";
    private static final String FAILS = "System.exit(1);";
    private static final String NO_JAVA = "this is no Java";

    private record Run(String what, boolean passes, Shell shell) {
    }

    private final Check check = new Check();
    private final Scratch scratch;
    // All are begun before one is waited for: most of their time goes into the start of javac.
    private final List<Run> runs = new ArrayList<>();

    private CiTest(Scratch scratch) {
        this.scratch = scratch;
    }

    public static void main(String[] args) throws IOException, InterruptedException {
        Check check;
        try (Scratch scratch = new Scratch()) {
            CiTest test = new CiTest(scratch);
            test.beginAll();
            test.lookAtAll();
            check = test.check;
        }
        check.end();
    }

    /** What fails comes first of two: that the other one passes must not hide it. */
    private void beginAll() throws IOException {
        begin("all pass", project("pass"), true);
        begin("own test fails", withOwn("own-fails", FAILS), false);
        begin("own test does not compile", withOwn("own-broken", NO_JAVA), false);
        begin("shared test fails", withShared("shared-fails", FAILS), false);
        begin("shared test does not compile", withShared("shared-broken", NO_JAVA), false);
        Path broken = project("class-broken");
        scratch.write(broken.resolve(CLASS), NO_JAVA);
        begin("class does not compile", broken, false);
        begin("no shared tests", ownProject("no-shared"), false);
    }

    /** From another directory, for the script has to find its project by itself. */
    private void begin(String what, Path project, boolean passes) throws IOException {
        runs.add(new Run(what, passes, new Shell(scratch.root, project.resolve(SCRIPT).toString())));
    }

    private void lookAtAll() throws IOException, InterruptedException {
        for (Run run : runs) {
            check.due(run.what + ", passes", run.shell.exit() == 0, run.passes);
        }
        dueRun(0, OWN[0], OWN[1], SHARED[0], SHARED[1], "4 tests run");
        dueRun(1, OWN[0], OWN[1], SHARED[0], SHARED[1], "FAILED: OneTest");
        dueRun(2, SHARED[0], SHARED[1], "FAILED: compiling the project's tests");
        dueRun(3, OWN[0], OWN[1], SHARED[0], SHARED[1], "FAILED: OneRuns");
        dueRun(4, OWN[0], OWN[1], SHARED[1], "FAILED: compiling OneRuns");
    }

    private void dueRun(int i, String... told) throws IOException, InterruptedException {
        for (String word : told) {
            check.due(runs.get(i).what + ", tells " + word, runs.get(i).shell.printed().contains(word), true);
        }
    }

    private Path withOwn(String name, String body) throws IOException {
        Path project = project(name);
        scratch.write(ownTest(project, OWN[0]), program(OWN[0], body));
        return project;
    }

    private Path withShared(String name, String body) throws IOException {
        Path project = project(name);
        scratch.write(sharedTest(project, SHARED[0]), program(SHARED[0], body));
        return project;
    }

    private Path project(String name) throws IOException {
        Path project = ownProject(name);
        for (String test : SHARED) {
            scratch.write(sharedTest(project, test), program(test, PASSES));
        }
        return project;
    }

    private Path ownProject(String name) throws IOException {
        Path project = scratch.root.resolve(name).resolve("main");
        scratch.copy(Path.of(SCRIPT), project.resolve(SCRIPT));
        scratch.copy(Path.of(CLASS), project.resolve(CLASS));
        for (String test : OWN) {
            scratch.write(ownTest(project, test), program(test, PASSES));
        }
        return project;
    }

    private static Path ownTest(Path project, String name) {
        return project.resolve("src/test/java").resolve(name + ".java");
    }

    private static Path sharedTest(Path project, String name) {
        return project.resolveSibling("shared/tests").resolve(name + ".java");
    }

    private static String program(String name, String body) {
        return "public final class " + name + " { public static void main(String[] args) { " + body + " } }";
    }
}
