import java.io.IOException;
import java.lang.reflect.Constructor;
import java.lang.reflect.Field;
import java.lang.reflect.Method;
import java.lang.reflect.Modifier;
import java.nio.file.Files;
import java.nio.file.Path;
import java.util.Arrays;
import java.util.List;
import java.util.TreeSet;
import java.util.regex.Matcher;
import java.util.regex.Pattern;
import java.util.stream.Collectors;

/** Rules of LANGUAGE.md that can be seen from the class or from its text; it runs in the project's own directory. */
public final class RulesTest {
    private static final Due DUE = new Due();
    private static final Path SOURCE = Path.of("src/main/java/LiarHall.java");
    private static final String FACE = "feed int int int int int int;end boolean int;fault int int;saying int;said int int int;"
        + "truth int int int;lay int int;clear int;worth int int int;sum int int int;prime boolean int;curve int int int;"
        + "law int;giant int;talk int int int int int;run int int long int;fixed int int int;latest int int;"
        + "value int int int;draw int int;tries int int int;spent int int int;odds int int int int;best long int int;"
        + "bound long int int;roots int int int;small int int int int;won int int int;game int int int int;"
        + "steep int int int int boolean;net int int int;alike int int int;shuffle int int int int;"
        + "unlike int int int long int;rooms int long int;book int int int int;mended int int int int;least int int int;"
        + "count int int";
    private static final String[] NEVER = {"\\bcatch\\b", "\\bfinally\\b", "\\bsynchronized\\b", "\\bassert\\b", "->", "::",
        "\\bNaN\\b", "\\binstanceof \\w+\\(", "\\bprotected\\b", "\\bvar\\b", "\\b(Random|Thread|File|System\\.[^a])\\w*",
        "Exact\\(", "\\.(stream|forEach|sort|hashCode|toString|getMessage)\\(", "^package ", "\" \\+|\\+ \""};

    public static void main(String[] args) throws IOException {
        face();
        classes();
        List<String> lines = Files.readAllLines(SOURCE);
        words(lines);
        imports(lines);
        lengths(lines);
        DUE.close("RulesTest");
    }

    private static String told(Method method) {
        String types = Arrays.stream(method.getParameterTypes()).map(type -> " " + type.getSimpleName())
            .collect(Collectors.joining());
        return method.getName() + " " + method.getReturnType().getSimpleName() + types;
    }

    /** Rule 1: the document's members are public, all others are private and of other names. */
    private static void face() {
        TreeSet<String> due = new TreeSet<>(Arrays.asList(FACE.split(";")));
        TreeSet<String> names = new TreeSet<>(due.stream().map(one -> one.split(" ")[0]).collect(Collectors.toList()));
        TreeSet<String> found = new TreeSet<>();
        for (Method method : LiarHall.class.getDeclaredMethods()) {
            if (Modifier.isPublic(method.getModifiers())) {
                found.add(told(method));
                DUE.is("exceptions of " + told(method), method.getExceptionTypes().length,
                    method.getName().equals("value") ? 1 : 0);
                DUE.is("static " + told(method), Modifier.isStatic(method.getModifiers()), false);
            } else {
                DUE.is("private " + method, Modifier.isPrivate(method.getModifiers()), true);
                DUE.is("name of " + method, names.contains(method.getName()), false);
            }
        }
        DUE.is("the face is " + found, found.equals(due), true);
        DUE.is("final", Modifier.isFinal(LiarHall.class.getModifiers()), true);
        Constructor<?>[] made = LiarHall.class.getDeclaredConstructors();
        DUE.is("constructors", made.length, 1);
        DUE.is("its parameters", made[0].getParameterCount(), 0);
        DUE.is("public", Modifier.isPublic(made[0].getModifiers()), true);
        for (Field field : LiarHall.class.getDeclaredFields()) {
            boolean none = field.getName().equals("NONE");
            DUE.is("private " + field, Modifier.isPrivate(field.getModifiers()), !none);
            DUE.is("public " + field, Modifier.isPublic(field.getModifiers()), none);
        }
    }

    /** Rules 2, 5 and 11: classes inside, their fields, static ones and parameters. */
    private static void classes() {
        Class<?>[] inside = LiarHall.class.getDeclaredClasses();
        DUE.is("some twelve classes", inside.length < 13, true);
        check(LiarHall.class);
        for (Class<?> one : inside) {
            DUE.is("static " + one, Modifier.isStatic(one.getModifiers()), true);
            DUE.is("not public " + one, (one.getModifiers() & (Modifier.PUBLIC | Modifier.PROTECTED)) == 0, true);
            check(one);
        }
    }

    private static void check(Class<?> one) {
        int fields = 0;
        for (Field field : one.getDeclaredFields()) {
            boolean fixed = Modifier.isStatic(field.getModifiers());
            fields += fixed ? 0 : 1;
            DUE.is("final " + field, !fixed || Modifier.isFinal(field.getModifiers()), true);
        }
        DUE.is("some twenty fields of " + one, fields <= 20, true);
        for (Method method : one.getDeclaredMethods()) {
            DUE.is("seven parameters of " + method, method.getParameterCount() <= 7, true);
        }
    }

    private static String bare(String line) {
        return line.replaceAll("//.*|^\\s*/?\\*.*", "");
    }

    private static void words(List<String> lines) {
        for (String never : NEVER) {
            Pattern pattern = Pattern.compile(never);
            for (int i = 0; i < lines.size(); i++) {
                Matcher matcher = pattern.matcher(bare(lines.get(i)));
                DUE.is("no " + never + " in line " + (i + 1), matcher.find(), false);
            }
        }
    }

    /** Rule 4. */
    private static void imports(List<String> lines) {
        List<String> allowed = List.of("java.util.ArrayList", "java.util.Arrays", "java.util.List",
            "java.util.NoSuchElementException", "java.util.Iterator");
        for (String line : lines) {
            if (line.startsWith("import ")) {
                DUE.is(line, allowed.contains(line.substring(7, line.length() - 1)), true);
            }
        }
    }

    /** Rule 11: some sixty lines a method; a method ends where a brace stands as far in as it begins. */
    private static void lengths(List<String> lines) {
        Pattern head = Pattern.compile("^( {4}| {8})(?! |if |for )[\\w<>\\[\\], ]+\\([^;]*\\) (throws \\w+ )?\\{$");
        for (int i = 0; i < lines.size(); i++) {
            Matcher matcher = head.matcher(lines.get(i));
            if (matcher.matches()) {
                int end = i;
                while (end < lines.size() && !lines.get(end).equals(matcher.group(1) + "}")) {
                    end++;
                }
                DUE.is("length of " + lines.get(i), end < lines.size() && end - i < 60, true);
            }
        }
    }
}
