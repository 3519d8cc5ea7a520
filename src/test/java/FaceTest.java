import java.lang.reflect.Constructor;
import java.lang.reflect.Field;
import java.lang.reflect.Method;
import java.lang.reflect.Modifier;
import java.util.Arrays;
import java.util.Set;
import java.util.TreeSet;

/** The public face, and that nothing else of the class can be seen. */
public final class FaceTest {
    private static final Set<String> DUE = new TreeSet<>(Set.of(
            "int make(int,int,long,int,int)", "int rename(int,long,int)", "int fill(int,long,int)", "void contents(int,int,int)",
            "void set(int,int,int,int)", "int remove(int)", "int write()", "int read()", "int place()", "int alter(int,int)",
            "int check(int)", "void size(int)", "int hand(int)", "int node(int,int)", "int part(int,int,int)", "int total(int)"));

    public static void main(String[] args) {
        Set<String> seen = new TreeSet<>();
        for (Method method : TarYard.class.getDeclaredMethods()) {
            if (!Modifier.isPrivate(method.getModifiers())) {
                seen.add(signature(method));
            }
        }
        Yards.expectText("methods", seen.toString(), DUE.toString());
        for (Field field : TarYard.class.getDeclaredFields()) {
            boolean isNone = field.getName().equals("NONE");
            Expect.same("field " + field.getName(), Modifier.isPrivate(field.getModifiers()) ? 0 : 1, isNone ? 1 : 0);
        }
        Constructor<?>[] constructors = TarYard.class.getDeclaredConstructors();
        Expect.same("constructors", constructors.length, 1);
        Expect.same("public", Modifier.isPublic(constructors[0].getModifiers()) ? 1 : 0, 1);
        Expect.same("final", Modifier.isFinal(TarYard.class.getModifiers()) ? 1 : 0, 1);
        Expect.done();
    }

    private static String signature(Method method) {
        String arguments = String.join(",", Arrays.stream(method.getParameterTypes()).map(Class::getName).toList());
        return method.getReturnType().getName() + " " + method.getName() + "(" + arguments + ")";
    }
}
