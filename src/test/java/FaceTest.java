import java.lang.reflect.Constructor;
import java.lang.reflect.Field;
import java.lang.reflect.Method;
import java.lang.reflect.Modifier;
import java.util.Set;
import java.util.TreeSet;

/** The public face: every constant, constructor and method of the document, and no other. */
public final class FaceTest {
    private static final Due DUE = new Due();

    private static final String[] FACE = {
        "int feed(int,int,int,int,int)", "int tells(int)", "int fault()", "int text(int)",
        "boolean ways(int,int)", "boolean broken(int)", "boolean retries(int)", "boolean mend(int,boolean)",
        "boolean cost(int,int)", "int best(int,int)", "int meet(int,int)", "int remembers(int,int)",
        "int fall(int,int,int)", "int apart(int,int)", "int row(int,int,int,int,int)", "int safe(int,int)",
        "int lowest(int,int)", "int room(int,int)", "boolean must(int,int,boolean)", "int cheapest(int,int)"
    };

    public static void main(String[] args) throws NoSuchFieldException {
        members();
        modifiers();
        DUE.end();
    }

    private static void members() {
        Set<String> want = new TreeSet<>(Set.of(FACE));
        Set<String> got = new TreeSet<>();
        for (Method m : TalkDown.class.getDeclaredMethods()) {
            if (Modifier.isPublic(m.getModifiers()) && !Modifier.isStatic(m.getModifiers())) {
                got.add(shape(m));
            } else {
                DUE.is("private " + m, Modifier.isPrivate(m.getModifiers()), true);
            }
        }
        DUE.is("methods", got.toString(), want.toString());
        for (Field f : TalkDown.class.getDeclaredFields()) {
            DUE.is("field " + f, Modifier.isPrivate(f.getModifiers()), !f.getName().equals("NONE"));
        }
        Constructor<?>[] constructors = TalkDown.class.getDeclaredConstructors();
        DUE.is("constructors", constructors.length, 1);
        DUE.is("constructor's parameters", constructors[0].getParameterCount(), 0);
        DUE.is("NONE", TalkDown.NONE, -1);
    }

    private static void modifiers() throws NoSuchFieldException {
        DUE.is("the class", Modifier.toString(TalkDown.class.getModifiers()), "public final");
        DUE.is("its constructor", Modifier.toString(TalkDown.class.getDeclaredConstructors()[0].getModifiers()), "public");
        Field none = TalkDown.class.getDeclaredField("NONE");
        DUE.is("NONE's modifiers", Modifier.toString(none.getModifiers()), "public static final");
        DUE.is("NONE's type", none.getType().toString(), "int");
        for (Method m : TalkDown.class.getDeclaredMethods()) {
            if (!Modifier.isPrivate(m.getModifiers())) {
                DUE.is("modifiers of " + m.getName(), Modifier.toString(m.getModifiers()), "public");
            }
        }
        DUE.is("a package", TalkDown.class.getPackageName(), "");
        DUE.is("what it is a kind of", TalkDown.class.getSuperclass() == Object.class, true);
        DUE.is("interfaces", TalkDown.class.getInterfaces().length, 0);
    }

    private static String shape(Method m) {
        StringBuilder all = new StringBuilder(m.getReturnType() + " " + m.getName() + "(");
        for (Class<?> c : m.getParameterTypes()) {
            all.append(all.charAt(all.length() - 1) == '(' ? "" : ",").append(c);
        }
        return all.append(")").toString();
    }

    private FaceTest() {
    }
}
