import java.io.IOException;
import java.nio.file.Files;
import java.nio.file.Path;
import java.util.List;

/** .ci/run in small projects: it runs their own tests and those beside them, and fails if one fails. */
public final class CiTest {
    private static final Due DUE = new Due();
    private static final String[] TESTS = {"main/src/test/java/FirstTest.java", "main/src/test/java/SecondTest.java",
        "shared/tests/Third.java", "shared/tests/Fourth.java"};

    public static void main(String[] args) throws IOException, InterruptedException {
        ends("no test fails", -1, true, 0);
        for (int test = 0; test < TESTS.length; test++) {
            ends(TESTS[test] + " fails", test, true, 1);
        }
        ends("the class does not compile", -1, false, 1);
        withoutShared();
        DUE.close("CiTest");
    }

    private static Shell project(int failing, boolean compiles) throws IOException {
        Shell shell = new Shell();
        shell.write("main/.ci/run", Files.readAllLines(Path.of(".ci/run")));
        shell.write("main/src/main/java/LiarHall.java", List.of("public final class LiarHall " + (compiles ? "{ }" : "{")));
        for (int test = 0; test < TESTS.length; test++) {
            String name = TESTS[test].replaceAll(".*/|\\.java", "");
            String body = "System.out.println(new LiarHall() != null ? \"ran " + name + "\" : \"\");"
                + (test == failing ? "System.exit(1);" : "");
            shell.write(TESTS[test], List.of("public final class " + name + " {",
                "    public static void main(String[] args) {", "        " + body, "    }", "}"));
        }
        return shell;
    }

    private static void ends(String what, int failing, boolean compiles, int exit) throws IOException, InterruptedException {
        Shell shell = project(failing, compiles);
        List<String> printed = shell.run("sh main/.ci/run");
        DUE.is("exit code where " + what, shell.exit, exit);
        for (String test : TESTS) {
            String name = test.replaceAll(".*/|\\.java", "");
            DUE.is("ran " + name + " where " + what, printed.contains("ran " + name), compiles);
        }
        shell.close();
    }

    private static void withoutShared() throws IOException, InterruptedException {
        Shell shell = project(-1, true);
        shell.run("rm -r shared");
        shell.run("sh main/.ci/run");
        DUE.is("exit code without tests beside the project", shell.exit, 1);
        shell.close();
    }
}
