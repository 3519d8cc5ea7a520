import java.nio.file.Path;

/** .ci/run, called as README.md says, in small projects with small tests. */
public final class CiRunTest {
    private static final String PASSES = "public final class %s { public static void main(String[] a) { "
            + "System.out.println(\"ran %1$s \" + (TarYard.NONE == -1)); } }";
    private static final String FAILS = "public final class %s { public static void main(String[] a) { "
            + "System.out.println(\"ran %1$s \" + (TarYard.NONE == -1)); System.exit(1); } }";
    private static final String THROWS = "public final class %s { public static void main(String[] a) { "
            + "System.out.println(\"ran %1$s \" + (TarYard.NONE == -1)); throw new IllegalStateException(); } }";
    private static final String IS_NO_JAVA = "public final class %s { int }";
    private static final String[] TESTS = {"SharedA", "SharedB", "OwnATest", "OwnBTest"};

    public static void main(String[] args) {
        Expect.holds("compiles and runs every test under `../shared/tests` and every test of the project", CiRunTest::runsAll);
        Expect.holds("fails if one fails", "one under ../shared/tests", CiRunTest::aSharedTestFails);
        Expect.holds("fails if one fails", "one of the project", CiRunTest::anOwnTestFails);
        Expect.holds("fails if one fails", "by an exception", CiRunTest::aTestThrows);
        Expect.holds("fails if one fails", "one that can't be compiled", CiRunTest::noJava);
        Expect.holds("every test under `../shared/tests`", "there is none", CiRunTest::noSharedTests);
        Expect.done();
    }

    /** A project beside a directory of shared tests; all its tests pass. */
    private static Path projectIn(Path scratch) {
        Path project = scratch.resolve("project");
        Shell.copy(Path.of(".ci"), project.resolve(".ci"));
        Shell.write(project.resolve("src/main/java/TarYard.java"), "public final class TarYard { public static final int NONE = -1; }");
        Shell.write(project.resolve("src/test/support/Help.java"), "final class Help { }");
        for (String name : TESTS) {
            put(project, name, PASSES);
        }
        return project;
    }

    private static void put(Path project, String name, String form) {
        String directory = name.startsWith("Shared") ? "../shared/tests/" : "src/test/java/";
        Shell.write(project.resolve(directory).normalize().resolve(name + ".java"), String.format(form, name));
    }

    private static Shell runCi(Path project) {
        return Shell.run(project, Readme.blocks("Tests", "sh").get(0));
    }

    private static void expectAllRan(Shell ran) {
        for (String name : TESTS) {
            Expect.same(name + " ran", ran.printed.contains("ran " + name + " true\n") ? 1 : 0, 1);
        }
    }

    private static void runsAll() {
        Shell.inScratch(scratch -> {
            Shell ran = runCi(projectIn(scratch));
            expectAllRan(ran);
            Expect.same("exit code", ran.exit, 0);
        });
    }

    /** One of the four is another one: the others are run all the same, and the exit code tells it. */
    private static void expectFailure(String name, String form) {
        Shell.inScratch(scratch -> {
            Path project = projectIn(scratch);
            put(project, name, form);
            Shell ran = runCi(project);
            expectAllRan(ran);
            Expect.same("exit code with a wrong " + name, ran.exit, 1);
        });
    }

    private static void aSharedTestFails() {
        expectFailure("SharedA", FAILS);
    }

    private static void anOwnTestFails() {
        expectFailure("OwnATest", FAILS);
    }

    private static void aTestThrows() {
        expectFailure("SharedB", THROWS);
    }

    private static void noJava() {
        for (String name : new String[] {"SharedB", "OwnBTest"}) {
            Shell.inScratch(scratch -> {
                Path project = projectIn(scratch);
                put(project, name, IS_NO_JAVA);
                Expect.same("exit code with a wrong " + name, runCi(project).exit, 1);
            });
        }
    }

    private static void noSharedTests() {
        Shell.inScratch(scratch -> {
            Path project = projectIn(scratch.resolve("with"));
            Path without = scratch.resolve("without/project");
            Shell.copy(project, without);
            Expect.same("exit code", runCi(without).exit, 1);
        });
    }
}
