import java.lang.reflect.Constructor;
import java.lang.reflect.Field;
import java.lang.reflect.Method;
import java.lang.reflect.Modifier;
import java.util.ArrayList;
import java.util.HashSet;
import java.util.List;
import java.util.Set;
import java.util.TreeSet;

/** The public face is the document's, and nothing else of the class can be seen from outside. */
public final class FaceTest {
    private static final Check CHECK = new Check("FaceTest");
    private static final String INDEX = "IndexOutOfBoundsException";
    private static final String ARGUMENT = "IllegalArgumentException";
    private static final String STATE = "IllegalStateException";

    private FaceTest() {
    }

    public static void main(String[] args) {
        methods();
        theRest();
        CHECK.end();
    }

    private static String face(String type, String name, int ints, String... thrown) {
        return type + " " + name + " " + ints + " " + String.join(" ", thrown);
    }

    private static Set<String> due() {
        return new TreeSet<>(List.of(
                face("int", "divide", 2, INDEX, ARGUMENT, STATE),
                face("int", "give", 2, INDEX, STATE),
                face("int", "join", 2, INDEX, STATE),
                face("int", "colour", 2, INDEX, ARGUMENT, STATE),
                face("int", "finish", 0),
                face("int", "heart", 1, ARGUMENT),
                face("int", "sheet", 1, ARGUMENT),
                face("boolean", "bar", 1, INDEX, STATE),
                face("int", "paint", 2, INDEX, ARGUMENT, STATE),
                face("int", "fire", 2, INDEX, ARGUMENT),
                face("int", "crack", 1, INDEX),
                face("int", "mend", 1, INDEX, STATE),
                face("int", "replace", 2, INDEX, ARGUMENT, STATE),
                face("int", "pieces", 0),
                face("int", "pieceOf", 1, INDEX),
                face("int", "piece", 2, INDEX, ARGUMENT),
                face("int", "bestLine", 1, INDEX),
                face("int", "lead", 0),
                face("int", "joints", 0),
                face("int", "weight", 0),
                face("int", "assembled", 1),
                face("int", "sheets", 1, ARGUMENT),
                face("int", "laid", 1, INDEX),
                face("int", "waste", 1, ARGUMENT),
                face("int", "floor", 3, ARGUMENT),
                face("int", "floorAnew", 3, ARGUMENT),
                face("int", "crosses", 1, INDEX),
                face("int", "bends", 2, INDEX, ARGUMENT),
                face("boolean", "isShut", 0),
                face("int", "history", 2, INDEX)));
    }

    private static void methods() {
        Set<String> found = new TreeSet<>();
        Set<String> names = new HashSet<>();
        for (Method each : Leadlight.class.getDeclaredMethods()) {
            if (!Modifier.isPrivate(each.getModifiers())) {
                found.add(signature(each));
                names.add(each.getName());
            }
        }
        CHECK.same("the face", found, due());
        notOf(names, Leadlight.class);
        for (Class<?> each : Leadlight.class.getDeclaredClasses()) {
            notOf(names, each);
        }
    }

    private static void notOf(Set<String> names, Class<?> type) {
        for (Method each : type.getDeclaredMethods()) {
            if (!Modifier.isPublic(each.getModifiers())) {
                CHECK.same(each + " bears a public name", names.contains(each.getName()), false);
            }
        }
    }

    private static String signature(Method method) {
        for (Class<?> type : method.getParameterTypes()) {
            CHECK.same("a parameter of " + method.getName(), type, int.class);
        }
        CHECK.same("how " + method.getName() + " is seen", Modifier.toString(method.getModifiers()), "public");
        List<String> thrown = new ArrayList<>();
        for (Class<?> type : method.getExceptionTypes()) {
            thrown.add(type.getSimpleName());
        }
        return face(method.getReturnType().getSimpleName(), method.getName(), method.getParameterCount(),
                thrown.toArray(new String[0]));
    }

    private static void theRest() {
        CHECK.same("the class", Modifier.toString(Leadlight.class.getModifiers()), "public final");
        CHECK.same("above it", Leadlight.class.getSuperclass(), Object.class);
        CHECK.same("interfaces", Leadlight.class.getInterfaces().length, 0);
        CHECK.same("constructors", Leadlight.class.getDeclaredConstructors().length, 1);
        for (Constructor<?> each : Leadlight.class.getDeclaredConstructors()) {
            CHECK.same("the constructor", each.toString(), "public Leadlight()");
        }
        for (Field each : Leadlight.class.getDeclaredFields()) {
            CHECK.same("field " + each.getName() + " is private", Modifier.isPrivate(each.getModifiers()), true);
        }
        Class<?>[] inside = Leadlight.class.getDeclaredClasses();
        CHECK.same("at most 11 classes inside", inside.length <= 11, true);
        for (Class<?> each : inside) {
            int seen = each.getModifiers() & (Modifier.PUBLIC | Modifier.PROTECTED | Modifier.STATIC);
            CHECK.same("class " + each.getSimpleName(), Modifier.toString(seen), "static");
        }
    }
}
