import java.io.IOException;
import java.lang.reflect.Constructor;
import java.lang.reflect.Field;
import java.lang.reflect.Method;
import java.lang.reflect.Modifier;
import java.util.ArrayList;
import java.util.List;
import java.util.Set;
import java.util.TreeSet;

/** The rules of LANGUAGE.md, as far as the class and its source show them; the rule's number stands above its test. */
public final class LanguageTest {
    private static final Due DUE = new Due();
    private static final int MOST_PARAMETERS = 7;
    private static final int MOST_LINES = 60;
    private static final int MOST_CLASSES = 12;
    private static final int MOST_FIELDS = 20;
    private static final int MOST_CALLS_DEEP = 8;
    private static final Set<Class<?>> CONSTANTS = Set.of(int.class, long.class, boolean.class, char.class, String.class);
    private static final Set<String> LIBRARY = Set.of("String", "StringBuilder", "Integer", "Long", "Math", "System.arraycopy");

    private final Source source = new Source();
    private final List<Class<?>> classes = new ArrayList<>(List.of(TalkDown.class));

    private LanguageTest() throws IOException {
        classes.addAll(List.of(TalkDown.class.getDeclaredClasses()));
    }

    public static void main(String[] args) throws IOException {
        LanguageTest test = new LanguageTest();
        test.names();
        test.classesInside();
        test.typesOfFields();
        test.library();
        test.staticFields();
        test.wordsRefused();
        test.sizes();
        test.callsDeep();
        test.objectsMade();
        DUE.end();
    }

    // rule 1: "No private method bears the name of a public one"
    private void names() {
        Set<String> face = new TreeSet<>();
        for (Method m : TalkDown.class.getDeclaredMethods()) {
            if (Modifier.isPublic(m.getModifiers())) {
                face.add(m.getName());
            }
        }
        for (Class<?> c : classes) {
            for (Method m : c.getDeclaredMethods()) {
                boolean ofFace = c == TalkDown.class && Modifier.isPublic(m.getModifiers());
                DUE.is("named as one of the face: " + m, face.contains(m.getName()), ofFace);
            }
        }
    }

    // rules 1, 2: classes inside are static, not public or protected; none is local or anonymous
    private void classesInside() {
        for (Class<?> inside : TalkDown.class.getDeclaredClasses()) {
            int how = inside.getModifiers();
            DUE.is("static " + inside, Modifier.isStatic(how), true);
            DUE.is("seen from outside: " + inside, Modifier.isPublic(how) || Modifier.isProtected(how), false);
            DUE.is("classes deeper inside " + inside, inside.getDeclaredClasses().length, 0);
        }
        for (Class<?> c : classes) {
            DUE.is("a class without a name in " + c, c.getResource(c.getName() + "$1.class") == null, true);
        }
    }

    // rule 3
    private void typesOfFields() {
        for (Class<?> c : classes) {
            for (Field f : c.getDeclaredFields()) {
                Class<?> type = f.getType();
                Class<?> of = type.isArray() ? type.getComponentType() : type;
                boolean rows = of.isArray() && of.getComponentType().isPrimitive();
                DUE.is("type of " + f, of.isPrimitive() || rows || of == String.class || classes.contains(of), true);
            }
        }
    }

    // rules 4, 13: no library but what stands there, so no clock, randomness, file, thread or environment either
    private void library() {
        Set<String> known = new TreeSet<>(LIBRARY);
        classes.forEach(c -> known.add(c.getSimpleName()));
        for (String name : source.words("\\b[A-Z]\\w*[a-z]\\w*\\b(?:(?<=System)\\.\\w+)?")) {
            DUE.is("known: " + name, known.contains(name), true);
        }
        DUE.is("other members", source.words("\\.(getClass|wait|notify\\w*|\\w+Exact)\\b").toString(), "[]");
    }

    // rule 5
    private void staticFields() {
        for (Class<?> c : classes) {
            for (Field f : c.getDeclaredFields()) {
                if (Modifier.isStatic(f.getModifiers())) {
                    DUE.is("final " + f, Modifier.isFinal(f.getModifiers()), true);
                    DUE.is("constant " + f, CONSTANTS.contains(f.getType()), true);
                }
            }
        }
        DUE.is("static blocks", source.words("\\bstatic \\{").toString(), "[]");
    }

    // rules 2, 6, 9, 10
    private void wordsRefused() {
        DUE.is("words", source.words("\\b(throw|throws|try|catch|synchronized|assert|import|package|native)\\b").toString(), "[]");
        DUE.is("lambdas and method references", source.words("->|::").toString(), "[]");
        DUE.is("of every object", source.words("\\b(equals|hashCode|toString)\\b").toString(), "[]");
        DUE.is("loops without an end", source.words("while \\(true\\)|for \\(;|for \\([^;\n]*; ;").toString(), "[]");
        DUE.is("texts joined by +", source.words("\"\" \\+|\\+ \"\"|\\+= \"\"").toString(), "[]");
        DUE.is("texts compared by ==", source.words("[!=]= \"\"|\"\" [!=]=").toString(), "[]");
    }

    // rule 11
    private void sizes() {
        DUE.is("some twelve classes", classes.size() <= MOST_CLASSES, true);
        int members = 0;
        for (Class<?> c : classes) {
            int fields = 0;
            for (Field f : c.getDeclaredFields()) {
                fields += Modifier.isStatic(f.getModifiers()) ? 0 : 1;
            }
            DUE.is("some twenty fields: " + c, fields <= MOST_FIELDS, true);
            for (Method m : c.getDeclaredMethods()) {
                DUE.is("seven parameters: " + m, m.getParameterCount() <= MOST_PARAMETERS, true);
            }
            for (Constructor<?> m : c.getDeclaredConstructors()) {
                DUE.is("seven parameters: " + m, m.getParameterCount() <= MOST_PARAMETERS, true);
            }
            members += c.getDeclaredMethods().length + c.getDeclaredConstructors().length;
        }
        DUE.is("the source shows all methods and constructors", source.parts().size(), members);
        for (Source.Part part : source.parts()) {
            DUE.is("some sixty lines: " + part.name(), part.lines().size() <= MOST_LINES, true);
        }
    }

    // rules 8, 11: "calls that are no recursion go at most eight deep"; the class needs no recursion at all
    private void callsDeep() {
        for (Source.Part part : source.parts()) {
            int depth = 1 + source.depth(part.name(), MOST_CALLS_DEEP);
            DUE.is("eight deep: " + part.name() + " goes " + depth, depth <= MOST_CALLS_DEEP, true);
        }
    }

    // rule 12, and "make rows in constructors": what a run makes doesn't grow with its calls
    private void objectsMade() {
        for (Source.Part part : source.parts()) {
            DUE.is("makes objects: " + part.name(), part.body().contains("new ") && !part.isConstructor(), false);
        }
    }
}
