import java.io.IOException;
import java.nio.file.Files;
import java.nio.file.Path;
import java.util.ArrayList;
import java.util.LinkedHashMap;
import java.util.List;
import java.util.Map;
import java.util.Set;
import java.util.TreeSet;
import java.util.concurrent.ExecutorService;
import java.util.concurrent.Executors;
import java.util.concurrent.Future;
import java.util.stream.Collectors;
import java.util.stream.Stream;

/**
 * What README.md says of how the tests are run. The script is tried on small projects: a class and
 * tests of a few words, so that it does not come to run itself.
 */
public final class RunTest {
    private static final Due due = new Due("RunTest");
    /** So many projects are tried at once, for each takes its time. */
    private static final int AT_ONCE = 4;
    private static final String PASSES = "System.exit(0);";
    private static final String FAILS = "System.exit(1);";
    private static final String THROWS = "throw new IllegalStateException();";
    private static final String NO_JAVA = "this is no Java";
    private static final String CLASS = "public final class HexTable { static int two() { return 2; } }\n";
    private static final String CLASS_WITH_WARNING =
        "public final class HexTable { static int two() { return (int) 2; } }\n";
    private static final String SOURCE = "src/main/java/HexTable.java";
    private static final String OWN = "main/src/test/java/";
    private static final String SHARED = "shared/tests/";
    private static final String[] ALL = {"AlphaTest", "BetaTest", "Gamma", "Delta"};

    private static Readme readme;
    private static final Map<String, Folder.Ran> ran = new LinkedHashMap<>();

    public static void main(String[] args) throws Exception {
        readme = Readme.read();
        try (Folder folder = Folder.make()) {
            tryProjects(folder);
        }
        theCommand();
        whatItRuns();
        whatItPrints();
        whatItRefuses();
        oneTestByItself();
        tableOfTests();
        due.end();
    }

    /** Makes all the projects, each with one thing changed, then runs the script in each of them. */
    private static void tryProjects(Folder folder) throws Exception {
        make(folder, "good");
        make(folder, "from elsewhere");
        change(folder, "own test fails", OWN + "AlphaTest.java", test("AlphaTest", FAILS));
        change(folder, "own test throws", OWN + "AlphaTest.java", test("AlphaTest", THROWS));
        change(folder, "own test is no Java", OWN + "AlphaTest.java", NO_JAVA);
        change(folder, "shared test fails", SHARED + "Delta.java", test("Delta", FAILS));
        change(folder, "shared test is no Java", SHARED + "Delta.java", NO_JAVA);
        change(folder, "class is no Java", "main/" + SOURCE, NO_JAVA);
        change(folder, "class has a warning", "main/" + SOURCE, CLASS_WITH_WARNING);
        make(folder, "no own test");
        Files.delete(folder.path("no own test/" + OWN + "AlphaTest.java"));
        Files.delete(folder.path("no own test/" + OWN + "BetaTest.java"));
        make(folder, "no shared test");
        Files.delete(folder.path("no shared test/" + SHARED + "Gamma.java"));
        Files.delete(folder.path("no shared test/" + SHARED + "Delta.java"));
        runAll(folder);
    }

    private static void make(Folder folder, String project) throws IOException {
        ran.put(project, null);
        folder.copy(".ci/run", project + "/main/.ci/run");
        folder.write(project + "/main/" + SOURCE, CLASS);
        folder.write(project + "/" + OWN + "AlphaTest.java", test("AlphaTest", PASSES));
        folder.write(project + "/" + OWN + "BetaTest.java", test("BetaTest", PASSES));
        folder.write(project + "/" + OWN + "Helper.java", test("Helper", FAILS));
        folder.write(project + "/" + SHARED + "Gamma.java", test("Gamma", PASSES));
        folder.write(project + "/" + SHARED + "Delta.java", test("Delta", PASSES));
    }

    private static void change(Folder folder, String project, String file, String text) throws IOException {
        make(folder, project);
        folder.write(project + "/" + file, text);
    }

    private static String test(String name, String end) {
        return "public final class " + name + " { public static void main(String[] args) {\n"
            + "System.out.println(\"" + name + " ran\" + HexTable.two());\n" + end + "\n} }\n";
    }

    private static void runAll(Folder folder) throws Exception {
        ExecutorService pool = Executors.newFixedThreadPool(AT_ONCE);
        Map<String, Future<Folder.Ran>> begun = new LinkedHashMap<>();
        for (String name : ran.keySet()) {
            boolean inside = !name.equals("from elsewhere");
            String where = inside ? name + "/main" : "";
            String script = inside ? ".ci/run" : "'" + name + "/main/.ci/run'";
            begun.put(name, pool.submit(() -> folder.run(where, "bash " + script)));
        }
        for (String name : begun.keySet()) {
            ran.put(name, begun.get(name).get());
        }
        pool.shutdown();
    }

    private static void told(String words) {
        due.by("README.md: " + words);
        due.is("the README has these words", readme.says(words), true);
    }

    private static void shows(String project, String line, boolean want) {
        due.is(project + ": '" + line + "' in " + ran.get(project).lines(), ran.get(project).shows(line), want);
    }

    private static void theCommand() {
        due.by("README.md: the command of the section Tests");
        due.is("command", readme.blocks("sh").get(1).text(), ".ci/run\n");
        due.is("it can be run", Files.isExecutable(Path.of(".ci/run")), true);
    }

    private static void whatItRuns() {
        told("runs each `*Test.java` of these; then compiles each file of `../shared/tests` together with the class,"
            + " and runs it.");
        for (String test : ALL) {
            shows("good", test + " ran2", true);
        }
        shows("good", "Helper ran2", false);
        told("finds `../shared` beside the project, and can be called from any folder.");
        due.is("exit code", ran.get("from elsewhere").code(), 0);
        for (String test : ALL) {
            shows("from elsewhere", test + " ran2", true);
        }
        told("It goes on behind a test that fails.");
        for (String project : new String[] {"own test fails", "own test throws", "shared test fails"}) {
            for (String test : ALL) {
                shows(project, test + " ran2", true);
            }
        }
        shows("shared test is no Java", "Gamma ran2", true);
    }

    private static void whatItPrints() {
        told("Each test is named with `ok` or `FAILED`; the last line counts them.");
        shows("good", "ok      AlphaTest", true);
        shows("good", "ok      BetaTest", true);
        shows("good", "ok      shared Gamma", true);
        shows("good", "ok      shared Delta", true);
        due.is("last line", ran.get("good").lastLine(), "4 passed, 0 failed");
        for (String project : new String[] {"own test fails", "own test throws"}) {
            shows(project, "FAILED  AlphaTest", true);
            shows(project, "ok      BetaTest", true);
            due.is("last line of " + project, ran.get(project).lastLine(), "3 passed, 1 failed");
        }
        for (String project : new String[] {"shared test fails", "shared test is no Java"}) {
            shows(project, "FAILED  shared Delta", true);
            shows(project, "ok      shared Gamma", true);
            due.is("last line of " + project, ran.get(project).lastLine(), "3 passed, 1 failed");
        }
    }

    private static void whatItRefuses() {
        told("It compiles the class, taking a warning for an error, and the files of `src/test/java`;");
        due.is("class has a warning", ran.get("class has a warning").code(), 1);
        due.is("class is no Java", ran.get("class is no Java").code(), 1);
        due.is("own test is no Java", ran.get("own test is no Java").code(), 1);
        told("The exit code is 0 if all tests have passed; it is 1 if one has failed, if a file does not compile, or if"
            + " one of the two folders has no test.");
        ran.forEach((project, end) -> {
            boolean good = project.equals("good") || project.equals("from elsewhere");
            due.is("exit code of " + project + " " + end.lines(), end.code(), good ? 0 : 1);
        });
    }

    /** On the class as it is, and on one that answers wrongly. */
    private static void oneTestByItself() throws IOException, InterruptedException {
        told("One test by itself, which prints the answers that are not as due, and has the exit code 1 if there is one:");
        String commands = readme.blocks("sh").get(2).text();
        try (Folder folder = Folder.make()) {
            folder.copy("src", "as it is/src");
            Folder.Ran good = folder.run("as it is", commands);
            due.is("exit code " + good.lines(), good.code(), 0);
            due.is("no answer is printed " + good.lines(), good.lines().size(), 1);
            folder.copy("src/test", "wrong/src/test");
            String text = Files.readString(Path.of(SOURCE));
            folder.write("wrong/" + SOURCE, text.replace("case 1: return mover;", "case 1: return 3;"));
            Folder.Ran wrong = folder.run("wrong", commands);
            due.is("exit code of a wrong class " + wrong.lines(), wrong.code(), 1);
            due.is("its answers are printed", wrong.lines().size() > 1 && wrong.lines().get(0).contains("answered 3"), true);
        }
    }

    /** The table has a row for each test that there is, and no other; the helpers that are told of are there. */
    private static void tableOfTests() throws IOException {
        due.by("README.md: the table of tests");
        Set<String> files = new TreeSet<>();
        try (Stream<Path> all = Files.list(Path.of("src/test/java"))) {
            files.addAll(all.map(file -> file.getFileName().toString().replace(".java", "")).collect(Collectors.toList()));
        }
        List<String> rows = new ArrayList<>();
        readme.rows("test").forEach(row -> rows.add(Readme.plain(row.get(0))));
        Set<String> tests = new TreeSet<>(files);
        tests.removeIf(name -> !name.endsWith("Test"));
        due.is("tests", String.valueOf(new TreeSet<>(rows)), String.valueOf(tests));
        due.is("rows", rows.size(), tests.size());
        for (String helper : new String[] {"PlainHex", "Given", "Twins", "Due", "Readme", "Folder"}) {
            due.is("it tells of " + helper, readme.says("`" + helper + "`") && files.contains(helper), true);
        }
    }
}
