import java.lang.reflect.Constructor;
import java.lang.reflect.Field;
import java.lang.reflect.Method;
import java.lang.reflect.Modifier;
import java.util.Arrays;
import java.util.Set;
import java.util.TreeSet;

/** The face of the class is that of the document: no member more, none less, none named alike. */
public final class FaceTest {
    private static final String ILLEGAL = " IllegalArgumentException";
    private static final String STATE = " IllegalStateException";
    private static final String[] FACE = {
        "int kind(int, int, int)" + ILLEGAL + STATE,
        "int pipe(int, int)" + ILLEGAL + STATE,
        "int taps(int, int, int)" + ILLEGAL + STATE,
        "int gone(int, int, int)" + ILLEGAL,
        "void share(int, int)" + ILLEGAL,
        "int entry(int, int, int)" + ILLEGAL + STATE,
        "int many(int, int)" + ILLEGAL,
        "int count(int, int)" + ILLEGAL,
        "int write(int, int, int, boolean)" + ILLEGAL,
        "int digits(int)" + ILLEGAL,
        "int digit(int, int)" + ILLEGAL,
        "int rest(int, int)" + ILLEGAL + STATE,
        "int flow(int)" + ILLEGAL,
        "int size(int)" + ILLEGAL,
        "int cost()",
        "long loss(int)" + ILLEGAL,
        "long pressure(int, long)" + ILLEGAL + STATE,
        "int farthest()" + STATE,
    };

    private static int wrong = 0;

    public static void main(String[] args) {
        int modifiers = UseOdds.class.getModifiers();
        check(Modifier.isPublic(modifiers) && Modifier.isFinal(modifiers), "public final class");
        methods();
        fields();
        constructors();
        nestedClasses();
        System.out.println(wrong == 0 ? "the face is as due" : wrong + " faults");
        if (wrong != 0) {
            System.exit(1);
        }
    }

    private static void methods() {
        Set<String> seen = new TreeSet<>();
        Set<String> publicNames = new TreeSet<>();
        for (Method method : UseOdds.class.getDeclaredMethods()) {
            if (!Modifier.isPrivate(method.getModifiers())) {
                check(method.getModifiers() == Modifier.PUBLIC, method + " is just public");
                seen.add(text(method));
                publicNames.add(method.getName());
            }
        }
        Set<String> want = new TreeSet<>(Arrays.asList(FACE));
        check(seen.equals(want), "methods are " + seen + ", due are " + want);
        noPrivateNamesake(UseOdds.class, publicNames);
        for (Class<?> nested : UseOdds.class.getDeclaredClasses()) {
            noPrivateNamesake(nested, publicNames);
        }
    }

    private static void noPrivateNamesake(Class<?> type, Set<String> publicNames) {
        for (Method method : type.getDeclaredMethods()) {
            boolean ofFace = type == UseOdds.class && Modifier.isPublic(method.getModifiers());
            check(ofFace || !publicNames.contains(method.getName()), method + " has a name of its own");
        }
    }

    private static String text(Method method) {
        StringBuilder text = new StringBuilder();
        text.append(method.getReturnType()).append(' ').append(method.getName()).append('(');
        Class<?>[] types = method.getParameterTypes();
        for (int i = 0; i < types.length; i++) {
            text.append(i == 0 ? "" : ", ").append(types[i]);
        }
        text.append(')');
        for (Class<?> thrown : method.getExceptionTypes()) {
            text.append(' ').append(thrown.getSimpleName());
        }
        return text.toString();
    }

    private static void fields() {
        for (Field field : UseOdds.class.getDeclaredFields()) {
            int modifiers = field.getModifiers();
            boolean none = field.getName().equals("NONE") && field.getType() == int.class
                    && modifiers == (Modifier.PUBLIC | Modifier.STATIC | Modifier.FINAL);
            check(none || Modifier.isPrivate(modifiers), field + " is private");
            check(!Modifier.isStatic(modifiers) || Modifier.isFinal(modifiers), field + " is final");
        }
    }

    private static void constructors() {
        Constructor<?>[] all = UseOdds.class.getDeclaredConstructors();
        check(all.length == 1 && all[0].getParameterCount() == 0
                && Modifier.isPublic(all[0].getModifiers()), "one public constructor");
    }

    private static void nestedClasses() {
        for (Class<?> nested : UseOdds.class.getDeclaredClasses()) {
            int modifiers = nested.getModifiers();
            check(Modifier.isStatic(modifiers) && !Modifier.isPublic(modifiers)
                    && !Modifier.isProtected(modifiers), nested + " is static and not public");
        }
    }

    private static void check(boolean holds, String what) {
        if (!holds) {
            wrong++;
            System.out.println("not so: " + what);
        }
    }
}
