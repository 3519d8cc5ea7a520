import java.lang.reflect.Constructor;
import java.lang.reflect.Field;
import java.lang.reflect.Method;
import java.lang.reflect.Modifier;
import java.nio.file.Path;
import java.util.ArrayList;
import java.util.Arrays;
import java.util.List;
import java.util.Set;
import java.util.TreeSet;
import java.util.regex.Matcher;
import java.util.regex.Pattern;

/** The rules of ../shared/LANGUAGE.md that can be looked at in the file, or in the class that it becomes. */
public final class LanguageTest {
    /** Without comments and texts, so that what is found is code. */
    private static final String CODE = Shell.read(Path.of("src/main/java/TarYard.java"))
            .replaceAll("(?s)/\\*.*?\\*/", "").replaceAll("//.*", "").replaceAll("\"[^\"\n]*\"", "\"\"");
    private static final Set<String> LIBRARY = Set.of("Arrays.copyOf", "Math.max", "Math.min");
    private static final Set<String> STATIC_TYPES =
            Set.of("int", "long", "boolean", "char", "java.lang.String", "[I", "[J", "[C", "[B");

    public static void main(String[] args) {
        Expect.holds("without a package line", LanguageTest::noPackage);
        Expect.holds("No private method bears the name of a public one", LanguageTest::namesOfMethods);
        Expect.holds("the classes inside it, which are private or package-visible and static", LanguageTest::classesInside);
        Expect.holds("no lambda, no method reference", LanguageTest::noLambda);
        Expect.holds("The library: only what stands here", LanguageTest::library);
        Expect.holds("Static fields are final", LanguageTest::staticFields);
        Expect.holds("throw new E() or throw new E(\"a written text\")", LanguageTest::exceptions);
        Expect.holds("No finally", "nor what else is left out", LanguageTest::wordsThatAreLeftOut);
        Expect.holds("A method takes at most seven parameters", LanguageTest::parameters);
        Expect.holds("Methods stay short (some sixty lines)", LanguageTest::linesOfMethods);
        Expect.holds("at most some twelve classes, and a class some twenty fields beside its constants", LanguageTest::counts);
        Expect.done();
    }

    private static List<Class<?>> classes() {
        List<Class<?>> classes = new ArrayList<>(List.of(TarYard.class));
        classes.addAll(Arrays.asList(TarYard.class.getDeclaredClasses()));
        return classes;
    }

    private static void atMost(String what, long got, long most) {
        Expect.same(what + ": " + got + " is at most " + most, got <= most ? 1 : 0, 1);
    }

    private static Set<String> found(String pattern) {
        Set<String> found = new TreeSet<>();
        Matcher matcher = Pattern.compile(pattern).matcher(CODE);
        while (matcher.find()) {
            found.add(matcher.group(1));
        }
        return found;
    }

    private static void noPackage() {
        Expect.text("packages", found("\\b(package)\\b").toString(), "[]");
        Expect.text("imports", found("import ([^;]*);").toString(), "[java.util.Arrays]");
    }

    private static void namesOfMethods() {
        Set<String> face = new TreeSet<>();
        for (Method method : TarYard.class.getDeclaredMethods()) {
            if (Modifier.isPublic(method.getModifiers())) {
                face.add(method.getName());
            }
        }
        for (Class<?> inside : classes()) {
            for (Method method : inside.getDeclaredMethods()) {
                boolean isFace = Modifier.isPublic(method.getModifiers());
                Expect.same(inside + " " + method, face.contains(method.getName()) ? 1 : 0, isFace ? 1 : 0);
            }
        }
    }

    private static void classesInside() {
        for (Class<?> inside : TarYard.class.getDeclaredClasses()) {
            int kind = inside.getModifiers();
            Expect.same(inside + " is static", Modifier.isStatic(kind) ? 1 : 0, 1);
            Expect.same(inside + " is seen", Modifier.isPublic(kind) || Modifier.isProtected(kind) ? 1 : 0, 0);
        }
    }

    private static void noLambda() {
        Expect.text("lambdas", found("(->|::)").toString(), "[]");
    }

    private static void library() {
        Set<String> used = found("\\b([A-Z][a-z]\\w*\\.\\w+)\\(");
        used.removeIf(call -> classes().stream().anyMatch(own -> call.startsWith(own.getSimpleName() + ".")));
        used.removeAll(LIBRARY);
        Expect.text("beside the list", used.toString(), "[]");
        Set<String> types = found("\\bnew ([A-Z]\\w*)\\(");
        types.removeIf(type -> classes().stream().anyMatch(own -> type.equals(own.getSimpleName())));
        types.removeIf(type -> type.endsWith("Exception"));
        Expect.text("objects of the library", types.toString(), "[]");
    }

    private static void staticFields() {
        for (Class<?> inside : classes()) {
            for (Field field : inside.getDeclaredFields()) {
                if (Modifier.isStatic(field.getModifiers())) {
                    Expect.same(field + " is final", Modifier.isFinal(field.getModifiers()) ? 1 : 0, 1);
                    Expect.same(field + " is a constant", STATIC_TYPES.contains(field.getType().getName()) ? 1 : 0, 1);
                }
            }
        }
        Expect.text("static blocks", found("(static\\s*\\{)").toString(), "[]");
    }

    private static void exceptions() {
        Set<String> due = new TreeSet<>(Set.of("IllegalArgumentException", "IllegalStateException", "UnsupportedOperationException"));
        Expect.text("exceptions", found("throw new (\\w+)\\(\"\"\\);").toString(), due.toString());
        String rest = CODE.replaceAll("throw new \\w+\\(\"\"\\);", "");
        Expect.same("other throws", rest.matches("(?s).*\\bthrow\\b.*") ? 1 : 0, 0);
    }

    private static void wordsThatAreLeftOut() {
        String words = "\\b(try|catch|finally|synchronized|assert|instanceof|double|float|equals|hashCode|toString|record|enum)\\b";
        Expect.text("words", found(words).toString(), "[]");
    }

    private static void parameters() {
        for (Class<?> inside : classes()) {
            for (Method method : inside.getDeclaredMethods()) {
                atMost(method.toString(), method.getParameterCount(), 7);
            }
            for (Constructor<?> constructor : inside.getDeclaredConstructors()) {
                atMost(constructor.toString(), constructor.getParameterCount(), 7);
            }
        }
    }

    /** A method's last line is the first one that stands as far to the right as its own and is a bracket. */
    private static void linesOfMethods() {
        Matcher method = Pattern.compile("(?m)^( +)[\\w\\[\\] ]+\\([^;{]*\\{\n(?s:.*?)^\\1\\}$").matcher(CODE);
        int methods = 0;
        while (method.find()) {
            methods++;
            String[] lines = method.group().split("\n");
            atMost(lines[0].trim(), lines.length, 60);
        }
        Expect.same(methods + " methods are looked at", methods >= 60 ? 1 : 0, 1);
    }

    private static void counts() {
        atMost("classes", classes().size(), 12);
        for (Class<?> inside : classes()) {
            long fields = Arrays.stream(inside.getDeclaredFields()).filter(f -> !Modifier.isStatic(f.getModifiers())).count();
            atMost("fields of " + inside, fields, 20);
        }
    }
}
