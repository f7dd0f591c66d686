import java.lang.reflect.Constructor;
import java.lang.reflect.Executable;
import java.lang.reflect.Field;
import java.lang.reflect.Method;
import java.lang.reflect.Modifier;
import java.util.Arrays;
import java.util.HashSet;
import java.util.Set;
import java.util.TreeSet;
import java.util.stream.Collectors;

/** The public face is the document's, and nothing else of the class can be seen from outside. */
public final class FaceTest {
    private static final Check CHECK = new Check();
    private static final String BOTH = " IllegalArgumentException IllegalStateException";
    private static final String[] FACE = {
        "void sites(int)" + BOTH,
        "int object(int, boolean)" + BOTH,
        "int begin(int)" + BOTH,
        "long read(int, int)" + BOTH,
        "void write(int, int, long)" + BOTH,
        "void change(int, int, int, boolean)" + BOTH,
        "int count(int, int, int)" + BOTH,
        "int element(int, int, int)" + BOTH + " NoSuchElementException",
        "int commit(int)" + BOTH,
        "void abort(int)" + BOTH,
        "int deliver(int, int)" + BOTH,
        "int waiting(int, int)" + BOTH,
        "int seen(int, int)" + BOTH,
        "int state(int, int)" + BOTH,
        "int locked(int)" + BOTH,
        "int count(int)"
    };

    public static void main(String[] args) {
        methods();
        CHECK.due("the class is public and final",
            FarStore.class.getModifiers() & (Modifier.PUBLIC | Modifier.FINAL), Modifier.PUBLIC | Modifier.FINAL);
        Constructor<?>[] constructors = FarStore.class.getDeclaredConstructors();
        CHECK.due("constructors", constructors.length, 1);
        CHECK.same("the constructor", constructors[0].toString(), "public FarStore()");
        for (Field field : FarStore.class.getDeclaredFields()) {
            CHECK.due("private: " + field, field.getModifiers() & Modifier.PRIVATE, Modifier.PRIVATE);
        }
        CHECK.end();
    }

    private static void methods() {
        Set<String> seen = new TreeSet<>();
        Set<String> publicNames = new HashSet<>();
        for (Method method : FarStore.class.getDeclaredMethods()) {
            if (Modifier.isPublic(method.getModifiers())) {
                seen.add(method.getReturnType().getSimpleName() + " " + method.getName() + told(method));
                publicNames.add(method.getName());
            }
        }
        CHECK.same("the face", seen.toString(), new TreeSet<>(Arrays.asList(FACE)).toString());
        for (Method method : FarStore.class.getDeclaredMethods()) {
            if (!Modifier.isPublic(method.getModifiers())) {
                CHECK.due("private: " + method, method.getModifiers() & Modifier.PRIVATE, Modifier.PRIVATE);
                CHECK.same("bears a public name: " + method, "" + publicNames.contains(method.getName()), "false");
            }
        }
    }

    private static String told(Executable method) {
        String parameters = Arrays.stream(method.getParameterTypes()).map(Class::getSimpleName)
            .collect(Collectors.joining(", ", "(", ")"));
        return parameters + Arrays.stream(method.getExceptionTypes()).map(type -> " " + type.getSimpleName())
            .collect(Collectors.joining());
    }
}
