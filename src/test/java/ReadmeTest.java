import java.io.File;
import java.io.IOException;
import java.lang.reflect.InvocationTargetException;
import java.lang.reflect.Method;
import java.lang.reflect.Modifier;
import java.nio.file.Files;
import java.nio.file.Path;
import java.util.List;
import java.util.Set;
import java.util.TreeSet;
import java.util.regex.Matcher;
import java.util.regex.Pattern;

/** README.md tells the truth: its example's answers, its table of calls and its list of tests. */
public final class ReadmeTest {
    private static final Pattern EXAMPLE = Pattern.compile("desk\\.(\\w+)\\((.*?)\\);\\s*// (throws \\w+|\\S+?)(:.*)?");
    private static final Pattern TABLE_ROW = Pattern.compile("\\| `(\\w+)\\((.*?)\\)` \\|.*");
    private static final Pattern TEST = Pattern.compile("- `(\\w+)`: .*");

    private static int wrong = 0;

    private static void due(String what, Object got, Object want) {
        if (!got.equals(want)) {
            wrong++;
            System.out.println(what + ": " + got + ", due is " + want);
        }
    }

    private static int howMany(String arguments) {
        return arguments.isEmpty() ? 0 : arguments.split(", ").length;
    }

    private static Set<String> face() {
        Set<String> face = new TreeSet<>();
        for (Method m : GroupDesk.class.getDeclaredMethods()) {
            if (Modifier.isPublic(m.getModifiers())) {
                face.add(m.getName() + " of " + m.getParameterCount());
            }
        }
        return face;
    }

    private static Method method(String name) {
        for (Method m : GroupDesk.class.getDeclaredMethods()) {
            if (Modifier.isPublic(m.getModifiers()) && m.getName().equals(name)) {
                return m;
            }
        }
        throw new IllegalStateException("the example calls " + name + ", which is not there");
    }

    private static Object[] values(Method m, String arguments) {
        Class<?>[] types = m.getParameterTypes();
        String[] texts = arguments.isEmpty() ? new String[0] : arguments.split(", ");
        Object[] values = new Object[texts.length];
        for (int i = 0; i < texts.length; i++) {
            boolean flag = i < types.length && types[i] == boolean.class;
            values[i] = flag ? (Object) Boolean.valueOf(texts[i]) : (Object) Integer.valueOf(texts[i]);
        }
        return values;
    }

    private static String answer(GroupDesk desk, String name, String arguments) throws IllegalAccessException {
        Method m = method(name);
        try {
            return String.valueOf(m.invoke(desk, values(m, arguments)));
        } catch (InvocationTargetException e) {
            return "throws " + e.getCause().getClass().getSimpleName();
        }
    }

    /** The lines between the fences, without the first one that makes the object. */
    private static List<String> example(List<String> readme) {
        int from = readme.indexOf("```java") + 1;
        int end = readme.indexOf("```");
        if (from == 0 || end < from + 1) {
            throw new IllegalStateException("README.md has no example");
        }
        due("the example begins", readme.get(from), "GroupDesk desk = new GroupDesk();");
        return readme.subList(from + 1, end);
    }

    private static void exampleAnswers(List<String> readme) throws IllegalAccessException {
        GroupDesk desk = new GroupDesk();
        Set<String> shown = new TreeSet<>();
        for (String line : example(readme)) {
            Matcher m = EXAMPLE.matcher(line);
            if (!m.matches()) {
                due("a line of the example", line, "a call with its answer");
                continue;
            }
            due(line, answer(desk, m.group(1), m.group(2)), m.group(3));
            shown.add(m.group(1) + " of " + howMany(m.group(2)));
        }
        due("the calls of the example", shown, face());
    }

    private static void tableOfCalls(List<String> readme) {
        Set<String> told = new TreeSet<>();
        for (String line : readme) {
            Matcher m = TABLE_ROW.matcher(line);
            if (m.matches()) {
                told.add(m.group(1) + " of " + howMany(m.group(2)));
            }
        }
        due("the calls of the table", told, face());
    }

    private static void listOfTests(List<String> readme) {
        Set<String> told = new TreeSet<>();
        for (String line : readme) {
            Matcher m = TEST.matcher(line);
            if (m.matches()) {
                told.add(m.group(1) + ".java");
            }
        }
        String[] files = new File("src/test/java").list();
        due("the tests told", told, new TreeSet<>(files == null ? List.of() : List.of(files)));
        due(".ci/run told", readme.contains("    .ci/run"), true);
    }

    public static void main(String[] args) throws IOException, IllegalAccessException {
        List<String> readme = Files.readAllLines(Path.of("README.md"));
        exampleAnswers(readme);
        tableOfCalls(readme);
        listOfTests(readme);
        System.out.println(wrong == 0 ? "the README is as due" : wrong + " things of the README are not as due");
        if (wrong != 0) {
            System.exit(1);
        }
    }
}
