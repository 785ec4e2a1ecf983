import java.lang.reflect.Constructor;
import java.lang.reflect.Field;
import java.lang.reflect.Method;
import java.lang.reflect.Modifier;
import java.util.Arrays;
import java.util.TreeSet;
import java.util.stream.Collectors;
import java.util.stream.Stream;

/** The public face as the document has it, and that no other member of the class can be seen. */
public final class FaceTest {
    private static final String INDEX = "IndexOutOfBoundsException";
    private static final String ARGUMENT = "IllegalArgumentException";
    private static final String STATE = "IllegalStateException";

    private static final String[] METHODS = {
        "branch 1 " + INDEX + " " + STATE,
        "add 2 " + INDEX + " " + STATE,
        "set 4 " + INDEX + " " + ARGUMENT + " " + STATE,
        "drop 2 " + INDEX + " " + STATE,
        "head 1 " + INDEX,
        "about 2 " + INDEX + " " + ARGUMENT,
        "value 3 " + INDEX,
        "slideAt 2 " + INDEX,
        "base 2 " + INDEX + " " + ARGUMENT,
        "clashes 2 " + INDEX + " " + ARGUMENT,
        "merged 5 " + INDEX + " " + ARGUMENT,
        "merge 3 " + INDEX + " " + ARGUMENT + " " + STATE,
        "rule 4 " + INDEX + " " + ARGUMENT + " " + STATE,
        "tighten 3 " + INDEX + " " + ARGUMENT,
        "waive 3 " + INDEX + " " + ARGUMENT + " " + STATE,
        "blocks 1 " + INDEX,
        "warnings 1 " + INDEX,
        "firstBlock 1 " + INDEX,
        "show 1 " + INDEX + " " + STATE,
        "shown 1 " + INDEX,
        "pass 1 " + ARGUMENT + " " + STATE,
    };

    public static void main(String[] args) {
        Check.due("the class's modifiers", Modifier.PUBLIC | Modifier.FINAL, Slidewarden.class.getModifiers());
        Check.due("NONE", -1, Slidewarden.NONE);
        Check.due("OURS", 0, Slidewarden.OURS);
        Check.due("THEIRS", 1, Slidewarden.THEIRS);
        methods();
        fields();
        constructors();
        for (Class<?> inside : Slidewarden.class.getDeclaredClasses()) {
            Check.due(inside + " is static", 1, Modifier.isStatic(inside.getModifiers()) ? 1 : 0);
            Check.due(inside + " can be seen", 0,
                    inside.getModifiers() & (Modifier.PUBLIC | Modifier.PROTECTED));
        }
        Check.end("FaceTest");
    }

    private static void methods() {
        TreeSet<String> seen = new TreeSet<>();
        TreeSet<String> publicNames = new TreeSet<>();
        for (Method method : Slidewarden.class.getDeclaredMethods()) {
            if (!Modifier.isPrivate(method.getModifiers())) {
                seen.add(told(method));
                publicNames.add(method.getName());
                Check.due(method + ", its modifiers", Modifier.PUBLIC, method.getModifiers());
            }
        }
        Check.due("the methods", String.join("\n", new TreeSet<>(Arrays.asList(METHODS))),
                String.join("\n", seen));
        for (Method method : Slidewarden.class.getDeclaredMethods()) {
            if (Modifier.isPrivate(method.getModifiers())) {
                Check.due(method + " bears a public name", 0, publicNames.contains(method.getName()) ? 1 : 0);
            }
        }
    }

    /** Its name, how many ints it takes, and what it throws, in the order of its clause. */
    private static String told(Method method) {
        boolean ints = method.getReturnType() == int.class
                && Stream.of(method.getParameterTypes()).allMatch(type -> type == int.class);
        String thrown = Stream.of(method.getExceptionTypes()).map(Class::getSimpleName)
                .collect(Collectors.joining(" "));
        return method.getName() + " " + (ints ? method.getParameterCount() : "not of ints") + " " + thrown;
    }

    private static void fields() {
        TreeSet<String> seen = new TreeSet<>();
        for (Field field : Slidewarden.class.getDeclaredFields()) {
            int modifiers = field.getModifiers();
            if (!Modifier.isPrivate(modifiers)) {
                seen.add(Modifier.toString(modifiers) + " " + field.getType() + " " + field.getName());
            }
            Check.due(field + " is static, not final", 0,
                    Modifier.isStatic(modifiers) && !Modifier.isFinal(modifiers) ? 1 : 0);
        }
        Check.due("the fields", "public static final int NONE, public static final int OURS, "
                + "public static final int THEIRS", String.join(", ", seen));
    }

    private static void constructors() {
        Constructor<?>[] made = Slidewarden.class.getDeclaredConstructors();
        Check.due("the constructors", 1, made.length);
        Check.due("its parameters", 0, made[0].getParameterCount());
        Check.due("its modifiers", Modifier.PUBLIC, made[0].getModifiers());
    }
}
