import java.lang.reflect.Constructor;
import java.lang.reflect.Executable;
import java.lang.reflect.Field;
import java.lang.reflect.Method;
import java.lang.reflect.Modifier;
import java.util.Arrays;
import java.util.Set;
import java.util.TreeSet;
import java.util.stream.Collectors;

/** The class shows the document's face and nothing else, and keeps no state that objects share. */
public final class RunSorterFaceTest {
    private static final Set<String> FACE = Set.of(
            "RunSorter()",
            "int fill(int, int, int) IllegalArgumentException IndexOutOfBoundsException",
            "int scatter(int, int, int) IllegalArgumentException IndexOutOfBoundsException",
            "int sort(int, int, int) IllegalArgumentException",
            "int get(int) IndexOutOfBoundsException",
            "int tag(int) IndexOutOfBoundsException",
            "int set(int, int) IndexOutOfBoundsException",
            "int turn(int, int) IllegalArgumentException",
            "int upTo(int, int, boolean) IllegalArgumentException",
            "int clear()",
            "int hash()");

    public static void main(String[] args) {
        int modifiers = RunSorter.class.getModifiers();
        Checks.due("public", Modifier.isPublic(modifiers), true);
        Checks.due("final", Modifier.isFinal(modifiers), true);
        Checks.due("face", face(), new TreeSet<>(FACE));
        for (Field field : RunSorter.class.getDeclaredFields()) {
            Checks.due(field + " is private", Modifier.isPrivate(field.getModifiers()), true);
            boolean shared = Modifier.isStatic(field.getModifiers()) && !Modifier.isFinal(field.getModifiers());
            Checks.due(field + " is shared and can change", shared, false);
        }
        Checks.end();
    }

    private static Set<String> face() {
        Set<String> face = new TreeSet<>();
        for (Constructor<?> constructor : RunSorter.class.getDeclaredConstructors()) {
            addUnlessPrivate(face, "RunSorter", constructor);
        }
        for (Method method : RunSorter.class.getDeclaredMethods()) {
            addUnlessPrivate(face, method.getReturnType().getSimpleName() + " " + method.getName(), method);
        }
        return face;
    }

    private static void addUnlessPrivate(Set<String> face, String name, Executable member) {
        if (Modifier.isPrivate(member.getModifiers())) {
            return;
        }
        String visibility = Modifier.isPublic(member.getModifiers()) ? "" : "not public: ";
        face.add((visibility + name + "(" + names(member.getParameterTypes(), ", ") + ") "
                + names(member.getExceptionTypes(), " ")).trim());
    }

    private static String names(Class<?>[] types, String between) {
        return Arrays.stream(types).map(Class::getSimpleName).collect(Collectors.joining(between));
    }
}
