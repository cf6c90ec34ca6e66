import java.io.IOException;
import java.lang.reflect.Constructor;
import java.lang.reflect.Field;
import java.lang.reflect.Method;
import java.lang.reflect.Modifier;
import java.nio.file.Files;
import java.nio.file.Path;
import java.util.Set;
import java.util.TreeSet;
import java.util.regex.Matcher;
import java.util.regex.Pattern;

/** The public face, and those rules of LANGUAGE.md that can be seen from outside or by a look at the words. */
public final class FaceTest {
    private static final Due DUE = new Due();

    private static final String[] FACE = {
        "int feed(int,int,int,int,int)", "int tells(int)", "int fault()", "int text(int)",
        "boolean ways(int,int)", "boolean broken(int)", "boolean retries(int)", "boolean mend(int,boolean)",
        "boolean cost(int,int)", "int best(int,int)", "int meet(int,int)", "int remembers(int,int)",
        "int fall(int,int,int)", "int apart(int,int)", "int row(int,int,int,int,int)", "int safe(int,int)",
        "int lowest(int,int)", "int room(int,int)", "boolean must(int,int,boolean)", "int cheapest(int,int)"
    };

    public static void main(String[] args) throws IOException {
        members();
        words();
        DUE.end();
    }

    private static void members() {
        Set<String> want = new TreeSet<>(Set.of(FACE));
        Set<String> got = new TreeSet<>();
        for (Method m : TalkDown.class.getDeclaredMethods()) {
            if (Modifier.isPublic(m.getModifiers()) && !Modifier.isStatic(m.getModifiers())) {
                got.add(shape(m));
            } else {
                DUE.is("private " + m, Modifier.isPrivate(m.getModifiers()), true);
            }
        }
        DUE.is("methods", got.toString(), want.toString());
        for (Field f : TalkDown.class.getDeclaredFields()) {
            DUE.is("field " + f, Modifier.isPrivate(f.getModifiers()), !f.getName().equals("NONE"));
        }
        Constructor<?>[] constructors = TalkDown.class.getDeclaredConstructors();
        DUE.is("constructors", constructors.length, 1);
        DUE.is("constructor's parameters", constructors[0].getParameterCount(), 0);
        DUE.is("final", Modifier.isFinal(TalkDown.class.getModifiers()), true);
        DUE.is("NONE", TalkDown.NONE, -1);
        for (Class<?> inside : TalkDown.class.getDeclaredClasses()) {
            DUE.is("static " + inside, Modifier.isStatic(inside.getModifiers()), true);
        }
    }

    private static String shape(Method m) {
        StringBuilder all = new StringBuilder(m.getReturnType() + " " + m.getName() + "(");
        for (Class<?> c : m.getParameterTypes()) {
            all.append(all.charAt(all.length() - 1) == '(' ? "" : ",").append(c);
        }
        return all.append(")").toString();
    }

    private static void words() throws IOException {
        String source = Files.readString(Path.of("src/main/java/TalkDown.java"));
        String code = source.replaceAll("(?s)/\\*.*?\\*/", "").replaceAll("//[^\n]*", "");
        String[] refused = {"\\b(throw|try|catch|synchronized|assert|import|package)\\b", "->", "::", "Exact\\b",
            "\\b(hashCode|toString|equals)\\b"};
        for (String word : refused) {
            Matcher m = Pattern.compile(word).matcher(code);
            DUE.is("the source holds " + word, m.find(), false);
        }
    }
}
