import java.io.IOException;
import java.lang.reflect.Method;
import java.lang.reflect.Modifier;
import java.nio.file.Files;
import java.nio.file.Path;
import java.util.ArrayList;
import java.util.List;
import java.util.TreeSet;
import java.util.regex.Matcher;
import java.util.regex.Pattern;
import java.util.stream.Collectors;
import java.util.stream.Stream;

/** What README.md says: its example answers so, its commands stand, and it names all calls and all tests. */
public final class ReadmeTest {
    private static final Due DUE = new Due();
    private static final String MAIN = "src/main/java/LiarHall.java";
    private static final Path TESTS = Path.of("src/test/java");

    public static void main(String[] args) throws IOException, InterruptedException {
        List<String> page = Files.readAllLines(Path.of("README.md"));
        example(block(page, "java", 0), block(page, "sh", 0));
        calls(page);
        tests(page, block(page, "sh", 1));
        DUE.close("ReadmeTest");
    }

    /** The lines of a block, counted from 0 among those of its kind. */
    private static List<String> block(List<String> page, String kind, int number) {
        List<String> lines = new ArrayList<>();
        int left = number;
        boolean inside = false;
        for (String line : page) {
            if (line.equals("```" + kind)) {
                inside = left == 0;
                left--;
            } else if (line.equals("```")) {
                inside = false;
            } else if (inside) {
                lines.add(line);
            }
        }
        return lines;
    }

    /** Behind each println stands what it prints, and perhaps a : and why. */
    private static void example(List<String> mine, List<String> commands) throws IOException, InterruptedException {
        List<String> due = new ArrayList<>();
        for (String line : mine) {
            if (line.contains("println")) {
                due.add(line.replaceAll(".*// |:.*", ""));
            }
        }
        Shell shell = new Shell();
        shell.write("Mine.java", mine);
        shell.write(MAIN, Files.readAllLines(Path.of(MAIN)));
        List<String> printed = new ArrayList<>();
        for (String command : commands) {
            printed.addAll(shell.run(command));
            DUE.is("exit code of " + command, shell.exit, 0);
        }
        shell.close();
        DUE.is("commands", commands.size(), 2);
        DUE.is("the example's answers are some", due.size() > 10, true);
        DUE.is("the example's answers are " + printed + ", told are " + due, printed.equals(due), true);
    }

    private static List<String> names(String text) {
        List<String> names = new ArrayList<>();
        Matcher matcher = Pattern.compile("`(\\w+)`").matcher(text);
        while (matcher.find()) {
            names.add(matcher.group(1));
        }
        return names;
    }

    /** The table has each call of the face once. */
    private static void calls(List<String> page) {
        List<String> told = new ArrayList<>();
        for (String line : page) {
            if (line.startsWith("| `")) {
                told.addAll(names(line.split("\\|")[1]));
            }
        }
        TreeSet<String> face = new TreeSet<>();
        for (Method method : LiarHall.class.getDeclaredMethods()) {
            if (Modifier.isPublic(method.getModifiers())) {
                face.add(method.getName());
            }
        }
        DUE.is("calls told once", told.size(), face.size());
        DUE.is("calls told " + told + " of " + face, new TreeSet<>(told).equals(face), true);
    }

    private static void tests(List<String> page, List<String> commands) throws IOException {
        DUE.is("the tests' command is " + commands, commands.equals(List.of(".ci/run")), true);
        DUE.is("it is executable", Files.isExecutable(Path.of(".ci/run")), true);
        List<String> told = new ArrayList<>();
        for (String line : page) {
            if (line.startsWith("- `")) {
                told.addAll(names(line.split(":")[0]));
            }
        }
        TreeSet<String> mains = new TreeSet<>();
        try (Stream<Path> all = Files.list(TESTS)) {
            for (Path path : all.collect(Collectors.toList())) {
                String name = path.getFileName().toString().replace(".java", "");
                boolean main = Files.readString(path).contains("    public static void main(");
                DUE.is("a main class in " + name, main, name.endsWith("Test"));
                if (main) {
                    mains.add(name);
                }
            }
        }
        DUE.is("tests told once", told.size(), mains.size());
        DUE.is("tests told " + told + " of " + mains, new TreeSet<>(told).equals(mains), true);
    }
}
