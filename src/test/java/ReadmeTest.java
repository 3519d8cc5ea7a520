import java.io.File;
import java.lang.reflect.Method;
import java.lang.reflect.Modifier;
import java.nio.file.Files;
import java.nio.file.Path;
import java.util.Arrays;
import java.util.Set;
import java.util.TreeSet;

/** README.md: its example, its commands and its names hold as they stand there. */
public final class ReadmeTest {
    private static final Path CLASS = Path.of("src/main/java/TarYard.java");

    public static void main(String[] args) {
        Expect.holds("it is compiled and run with", "and prints", ReadmeTest::example);
        Expect.holds("One test alone", ReadmeTest::oneTestAlone);
        Expect.holds("A wrong answer is printed with these words, and the exit code is 1 then", ReadmeTest::aWrongAnswer);
        Expect.holds("what it does", "each call of the face", ReadmeTest::calls);
        Expect.holds("Each test is a class with a main method in `src/test/java`", "each is told", ReadmeTest::tests);
        Expect.holds("In `src/test/support` is what they share", "each is told", ReadmeTest::support);
        Expect.holds("files that are told are there", ReadmeTest::files);
        Expect.done();
    }

    private static String only(String section, String language) {
        Expect.same("blocks of " + language + " in " + section, Readme.blocks(section, language).size(), 1);
        return Readme.blocks(section, language).get(0);
    }

    private static void example() {
        Shell.inScratch(scratch -> {
            Shell.copy(CLASS, scratch.resolve(CLASS));
            Shell.write(scratch.resolve("Example.java"), only("Use", "java"));
            Shell ran = Shell.run(scratch, only("Use", "sh"));
            Expect.text("what it prints", ran.printed, only("Use", "text"));
            Expect.same("exit code", ran.exit, 0);
        });
    }

    private static String commandsOfOneTest() {
        Expect.same("commands in Tests", Readme.blocks("Tests", "sh").size(), 2);
        return Readme.blocks("Tests", "sh").get(1);
    }

    private static void oneTestAlone() {
        Shell.inScratch(scratch -> {
            Shell.copy(Path.of("src"), scratch.resolve("src"));
            Shell ran = Shell.run(scratch, commandsOfOneTest());
            Expect.text("what it prints", ran.printed.replaceFirst("^\\d+ ", ""), "cases, 0 answers are not as due\n");
            Expect.same("exit code", ran.exit, 0);
        });
    }

    private static void aWrongAnswer() {
        Shell.inScratch(scratch -> {
            Shell.copy(Path.of("src"), scratch.resolve("src"));
            String spoiled = Shell.read(CLASS).replace("MOST_NODES = 30", "MOST_NODES = 31");
            Shell.write(scratch.resolve(CLASS), spoiled);
            Shell ran = Shell.run(scratch, commandsOfOneTest());
            Expect.same("words of the document", ran.printed.contains("[there are 30 nodes") ? 1 : 0, 1);
            Expect.same("exit code", ran.exit, 1);
        });
    }

    private static void calls() {
        Set<String> due = new TreeSet<>();
        for (Method method : TarYard.class.getDeclaredMethods()) {
            if (Modifier.isPublic(method.getModifiers())) {
                due.add(method.getName() + " " + method.getParameterCount());
            }
        }
        Set<String> told = new TreeSet<>();
        for (String call : Readme.names("([a-z]+\\([a-z, ]*\\))")) {
            String arguments = call.substring(call.indexOf('(') + 1, call.length() - 1);
            int count = arguments.isEmpty() ? 0 : arguments.split(",").length;
            told.add(call.substring(0, call.indexOf('(')) + " " + count);
        }
        Expect.text("calls", told.toString(), due.toString());
    }

    private static Set<String> classesIn(String directory) {
        Set<String> names = new TreeSet<>();
        File[] files = new File(directory).listFiles();
        Arrays.stream(files == null ? new File[0] : files).forEach(file -> names.add(file.getName().replace(".java", "")));
        return names;
    }

    private static void tests() {
        Expect.text("tests", Readme.names("([A-Z]\\w*Test)").toString(), classesIn("src/test/java").toString());
    }

    private static void support() {
        Set<String> told = Readme.names("([A-Z][a-z]+)");
        Expect.text("support", told.toString(), classesIn("src/test/support").toString());
    }

    private static void files() {
        Set<String> told = Readme.names("((?:src|\\.ci|\\.\\./shared/tests)[\\w/.]*)");
        Expect.same("some are told", told.size() >= 5 ? 1 : 0, 1);
        for (String file : told) {
            Expect.same(file + " is there", Files.exists(Path.of(file)) ? 1 : 0, 1);
        }
        Expect.same(".ci/run can be run", Files.isExecutable(Path.of(".ci/run")) ? 1 : 0, 1);
    }
}
