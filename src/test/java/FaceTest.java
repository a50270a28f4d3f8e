import java.lang.reflect.Constructor;
import java.lang.reflect.Field;
import java.lang.reflect.Method;
import java.lang.reflect.Modifier;
import java.util.ArrayList;
import java.util.List;
import java.util.Set;
import java.util.TreeSet;

/** The public face of the document, and rules 1 and 5 of LANGUAGE.md. */
final class FaceTest {
    private static final String INDEX = " IndexOutOfBoundsException";
    private static final String ARGUMENT = " IllegalArgumentException";
    private static final String STATE = " IllegalStateException";

    private static final String[] FACE = {
        "int ringer(int,int,int)" + INDEX + ARGUMENT + STATE,
        "int vote(int,int)" + INDEX + ARGUMENT,
        "int seat(int,int,int)" + INDEX,
        "int elect(int)" + INDEX,
        "int put(int,int,int)" + INDEX + STATE,
        "int leave(int)" + INDEX + STATE,
        "int told(int,int)" + INDEX,
        "int bell(int,int,int)" + INDEX,
        "int method()" + STATE,
        "int add(int,int)" + INDEX + ARGUMENT + STATE,
        "int about(int,int)" + INDEX,
        "int row(int,int)" + INDEX + ARGUMENT + STATE,
        "int dodges(int,int)" + INDEX,
        "int ring(int,int,int)" + INDEX + ARGUMENT + STATE,
        "int would(int,int,int)" + INDEX + ARGUMENT,
        "int advise(int)" + INDEX,
        "int count(int)" + INDEX,
        "int pass(int)" + ARGUMENT,
        "int foresee(int,int,int)" + INDEX + ARGUMENT,
        "double mean()",
        "long digest()",
    };

    private FaceTest() {
    }

    public static void main(String[] args) {
        Class<?> face = BellRoster.class;
        Check.due("the class's modifiers", Modifier.toString(face.getModifiers()), "public final");
        Constructor<?>[] constructors = face.getDeclaredConstructors();
        Check.due("how many constructors", constructors.length, 1);
        Check.due("the constructor", constructors[0].toString(), "public BellRoster()");
        methods(face);
        fields(face);
        for (Class<?> inside : face.getDeclaredClasses()) {
            int modifiers = inside.getModifiers();
            Check.due(inside + " is static and not public", isHidden(modifiers) && Modifier.isStatic(modifiers) ? 1 : 0, 1);
            fields(inside);
        }
        Check.finish();
    }

    private static void methods(Class<?> face) {
        Set<String> open = new TreeSet<>();
        Set<String> openNames = new TreeSet<>();
        List<String> closed = new ArrayList<>();
        for (Method method : face.getDeclaredMethods()) {
            if (Modifier.isPublic(method.getModifiers())) {
                open.add(asText(method));
                openNames.add(method.getName());
            } else {
                Check.due(method + " is private", Modifier.isPrivate(method.getModifiers()) ? 1 : 0, 1);
                closed.add(method.getName());
            }
        }
        Check.due("the public methods", open.toString(), new TreeSet<>(List.of(FACE)).toString());
        for (String name : closed) {
            Check.due(name + " bears no public name", openNames.contains(name) ? 1 : 0, 0);
        }
        for (Class<?> inside : face.getDeclaredClasses()) {
            for (Method method : inside.getDeclaredMethods()) {
                Check.due(method + " bears no public name", openNames.contains(method.getName()) ? 1 : 0, 0);
            }
        }
    }

    private static String asText(Method method) {
        StringBuilder text = new StringBuilder();
        text.append(method.getReturnType().getName()).append(' ').append(method.getName()).append('(');
        String between = "";
        for (Class<?> type : method.getParameterTypes()) {
            text.append(between).append(type.getName());
            between = ",";
        }
        text.append(')');
        for (Class<?> type : method.getExceptionTypes()) {
            text.append(' ').append(type.getSimpleName());
        }
        return text.toString();
    }

    private static void fields(Class<?> owner) {
        int instance = 0;
        for (Field field : owner.getDeclaredFields()) {
            int modifiers = field.getModifiers();
            Check.due(field + " is private", Modifier.isPrivate(modifiers) ? 1 : 0, 1);
            if (Modifier.isStatic(modifiers)) {
                Check.due(field + " is final", Modifier.isFinal(modifiers) ? 1 : 0, 1);
            } else {
                instance++;
            }
        }
        Check.due(owner + " has some twenty fields", instance <= 20 ? 1 : 0, 1);
    }

    private static boolean isHidden(int modifiers) {
        return !Modifier.isPublic(modifiers) && !Modifier.isProtected(modifiers);
    }
}
