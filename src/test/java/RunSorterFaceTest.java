import java.lang.reflect.Constructor;
import java.lang.reflect.Executable;
import java.lang.reflect.Field;
import java.lang.reflect.Method;
import java.lang.reflect.Modifier;
import java.util.Arrays;
import java.util.Set;
import java.util.TreeSet;
import java.util.stream.Collectors;

/** The class shows the document's face and nothing else, and keeps no state that objects share. */
public final class RunSorterFaceTest {
    private static final Set<String> FACE = Set.of(
            "RunSorter()",
            "int fill(int, int, int) IllegalArgumentException IndexOutOfBoundsException",
            "int scatter(int, int, int) IllegalArgumentException IndexOutOfBoundsException",
            "int sort(int, int, int) IllegalArgumentException",
            "int get(int) IndexOutOfBoundsException",
            "int tag(int) IndexOutOfBoundsException",
            "int set(int, int) IndexOutOfBoundsException",
            "int turn(int, int) IllegalArgumentException",
            "int upTo(int, int, boolean) IllegalArgumentException",
            "int clear()",
            "int hash()");

    public static void main(String[] args) {
        int modifiers = RunSorter.class.getModifiers();
        Checks.due("public", Modifier.isPublic(modifiers), true);
        Checks.due("final", Modifier.isFinal(modifiers), true);
        Checks.due("the class above it", RunSorter.class.getSuperclass(), Object.class);
        Checks.due("interfaces", RunSorter.class.getInterfaces().length, 0);
        Checks.due("face", face(), new TreeSet<>(FACE));
        Checks.due("private methods with a public one's name", privateNamesakes(), Set.of());
        for (Class<?> inside : RunSorter.class.getDeclaredClasses()) {
            boolean hidden = !Modifier.isPublic(inside.getModifiers()) && !Modifier.isProtected(inside.getModifiers());
            Checks.due(inside + " is private or package-visible", hidden, true);
            Checks.due(inside + " is static", Modifier.isStatic(inside.getModifiers()), true);
        }
        for (Field field : RunSorter.class.getDeclaredFields()) {
            Checks.due(field + " is private", Modifier.isPrivate(field.getModifiers()), true);
            boolean shared = Modifier.isStatic(field.getModifiers()) && !Modifier.isFinal(field.getModifiers());
            Checks.due(field + " is shared and can change", shared, false);
        }
        Checks.end();
    }

    private static Set<String> face() {
        Set<String> face = new TreeSet<>();
        for (Constructor<?> constructor : RunSorter.class.getDeclaredConstructors()) {
            addUnlessPrivate(face, "RunSorter", constructor);
        }
        for (Method method : RunSorter.class.getDeclaredMethods()) {
            addUnlessPrivate(face, method.getReturnType().getSimpleName() + " " + method.getName(), method);
        }
        return face;
    }

    private static Set<String> privateNamesakes() {
        Set<String> namesakes = names(true);
        namesakes.retainAll(names(false));
        return namesakes;
    }

    private static Set<String> names(boolean ofPrivate) {
        return Arrays.stream(RunSorter.class.getDeclaredMethods())
                .filter(method -> Modifier.isPrivate(method.getModifiers()) == ofPrivate)
                .map(Method::getName)
                .collect(Collectors.toCollection(TreeSet::new));
    }

    private static void addUnlessPrivate(Set<String> face, String name, Executable member) {
        if (Modifier.isPrivate(member.getModifiers())) {
            return;
        }
        String visibility = Modifier.isPublic(member.getModifiers()) ? "" : "not public: ";
        face.add((visibility + name + "(" + names(member.getParameterTypes(), ", ") + ") "
                + names(member.getExceptionTypes(), " ")).trim());
    }

    private static String names(Class<?>[] types, String between) {
        return Arrays.stream(types).map(Class::getSimpleName).collect(Collectors.joining(between));
    }
}
