import java.io.IOException;
import java.lang.reflect.InvocationTargetException;
import java.lang.reflect.Method;
import java.lang.reflect.Modifier;
import java.nio.file.Files;
import java.nio.file.Path;
import java.util.List;
import java.util.Set;
import java.util.TreeSet;
import java.util.regex.Matcher;
import java.util.regex.Pattern;
import java.util.stream.Stream;

/** What README.md says is so when it is tried: its calls, and that it leaves out no method and no test. */
public final class ReadmeTest {
    private static final Due DUE = new Due();
    private static final String NEW = "TalkDown x = new TalkDown();";
    private static final Pattern CALL = Pattern.compile("x\\.(\\w+)\\((.*?)\\); +// (-?\\d+|true|false)(: .+)?");

    private final Set<String> tried = new TreeSet<>();
    private TalkDown x;

    public static void main(String[] args) throws IOException, ReflectiveOperationException {
        List<String> lines = Files.readAllLines(Path.of("README.md"));
        ReadmeTest readme = new ReadmeTest();
        readme.tryCalls(lines);
        DUE.is("methods that are tried", readme.tried.toString(), methodsOfFace().toString());
        DUE.is("tests that are named", testsNamed(lines).toString(), testsThere().toString());
        DUE.end();
    }

    private void tryCalls(List<String> lines) throws ReflectiveOperationException {
        boolean inside = false;
        for (String line : lines) {
            if (line.startsWith("```")) {
                inside = line.equals("```java");
                x = null;
            } else if (inside && line.equals(NEW)) {
                x = new TalkDown();
            } else if (inside) {
                tryCall(line);
            }
        }
    }

    private void tryCall(String line) throws ReflectiveOperationException {
        Matcher call = CALL.matcher(line);
        boolean known = x != null && call.matches();
        DUE.is("a call with its answer: " + line, known, true);
        if (known) {
            tried.add(call.group(1));
            DUE.is(line, answer(call.group(1), call.group(2)), call.group(3));
        }
    }

    private String answer(String name, String given) throws IllegalAccessException, InvocationTargetException {
        String[] words = given.isEmpty() ? new String[0] : given.split(", ");
        for (Method m : TalkDown.class.getDeclaredMethods()) {
            if (m.getName().equals(name) && Modifier.isPublic(m.getModifiers()) && m.getParameterCount() == words.length) {
                Object[] values = new Object[words.length];
                for (int i = 0; i < words.length; i++) {
                    values[i] = value(words[i], m.getParameterTypes()[i]);
                }
                return m.invoke(x, values).toString();
            }
        }
        return "no such method";
    }

    private static Object value(String word, Class<?> type) {
        if (type == boolean.class) {
            return Boolean.valueOf(word);
        }
        if (word.equals("TalkDown.NONE")) {
            return TalkDown.NONE;
        }
        return word.startsWith("0b") ? Integer.valueOf(word.substring(2), 2) : Integer.decode(word);
    }

    private static Set<String> methodsOfFace() {
        Set<String> all = new TreeSet<>();
        for (Method m : TalkDown.class.getDeclaredMethods()) {
            if (Modifier.isPublic(m.getModifiers())) {
                all.add(m.getName());
            }
        }
        return all;
    }

    private static Set<String> testsNamed(List<String> lines) {
        Set<String> all = new TreeSet<>();
        for (String line : lines) {
            Matcher row = Pattern.compile("\\| `(\\w+Test)` \\|.*").matcher(line);
            if (row.matches()) {
                all.add(row.group(1));
            }
        }
        return all;
    }

    private static Set<String> testsThere() throws IOException {
        Set<String> all = new TreeSet<>();
        try (Stream<Path> files = Files.list(Path.of("src/test/java"))) {
            files.map(file -> file.getFileName().toString()).filter(name -> name.endsWith("Test.java"))
                .forEach(name -> all.add(name.replace(".java", "")));
        }
        return all;
    }

    private ReadmeTest() {
    }
}
