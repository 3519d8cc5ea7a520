import java.lang.reflect.Constructor;
import java.lang.reflect.Field;
import java.lang.reflect.Method;
import java.lang.reflect.Modifier;
import java.util.Arrays;
import java.util.Set;
import java.util.TreeSet;

/** The public face, and that nothing else of the class can be seen. */
public final class FaceTest {
    private static final String ARGUMENT = " IllegalArgumentException";
    private static final String STATE = " IllegalStateException";
    private static final Set<String> DUE = new TreeSet<>(Set.of(
            "int make(int,int,long,int,int)" + ARGUMENT + STATE, "int rename(int,long,int)" + ARGUMENT + STATE,
            "int fill(int,long,int)" + ARGUMENT + STATE, "void contents(int,int,int)" + ARGUMENT,
            "void set(int,int,int,int)" + ARGUMENT, "int remove(int)" + ARGUMENT,
            "int write() UnsupportedOperationException", "int read()", "int place()", "int alter(int,int)" + ARGUMENT,
            "int check(int)" + ARGUMENT, "void size(int)" + ARGUMENT, "int hand(int)", "int node(int,int)" + ARGUMENT,
            "int part(int,int,int)" + ARGUMENT, "int total(int)" + ARGUMENT));

    public static void main(String[] args) {
        Expect.holds("The public face", "methods", FaceTest::methods);
        Expect.holds("The public face", "fields", FaceTest::fields);
        Expect.holds("The public face", "the constructor and the class", FaceTest::constructor);
        Expect.done();
    }

    private static void methods() {
        Set<String> seen = new TreeSet<>();
        for (Method method : TarYard.class.getDeclaredMethods()) {
            if (!Modifier.isPrivate(method.getModifiers())) {
                seen.add(signature(method));
            }
        }
        Expect.text("methods", seen.toString(), DUE.toString());
    }

    private static void fields() {
        for (Field field : TarYard.class.getDeclaredFields()) {
            boolean isNone = field.getName().equals("NONE");
            Expect.same("field " + field.getName(), Modifier.isPrivate(field.getModifiers()) ? 0 : 1, isNone ? 1 : 0);
        }
    }

    private static void constructor() {
        Constructor<?>[] constructors = TarYard.class.getDeclaredConstructors();
        Expect.same("constructors", constructors.length, 1);
        Expect.same("public", Modifier.isPublic(constructors[0].getModifiers()) ? 1 : 0, 1);
        Expect.same("final", Modifier.isFinal(TarYard.class.getModifiers()) ? 1 : 0, 1);
    }

    private static String signature(Method method) {
        String arguments = String.join(",", Arrays.stream(method.getParameterTypes()).map(Class::getName).toList());
        StringBuilder thrown = new StringBuilder();
        Arrays.stream(method.getExceptionTypes()).map(Class::getSimpleName).sorted().forEach(e -> thrown.append(' ').append(e));
        return method.getReturnType().getName() + " " + method.getName() + "(" + arguments + ")" + thrown;
    }
}
