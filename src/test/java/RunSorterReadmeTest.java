import java.io.IOException;
import java.lang.reflect.InvocationTargetException;
import java.lang.reflect.Method;
import java.lang.reflect.Modifier;
import java.nio.file.Files;
import java.nio.file.Path;
import java.util.Arrays;
import java.util.List;
import java.util.Set;
import java.util.TreeSet;
import java.util.regex.Matcher;
import java.util.regex.Pattern;

/** Plays the example of README.md line by line: each call answers and throws what stands behind it. */
public final class RunSorterReadmeTest {
    private static final Pattern LINE = Pattern.compile("sorter\\.(\\w+)\\((.*)\\); +// (throws \\w+|-?\\d+)(?:: (.*))?");
    private static final Pattern ROW = Pattern.compile("the row is ([-\\d, ]+), the tags ([-\\d, ]+)");

    private final RunSorter sorter = new RunSorter();
    private final Set<String> shown = new TreeSet<>();

    public static void main(String[] args) throws IOException {
        RunSorterReadmeTest test = new RunSorterReadmeTest();
        example().forEach(test::play);
        test.showsTheWholeFace();
        Checks.end();
    }

    // The first line makes the object, and the test has one of its own.
    private static List<String> example() throws IOException {
        return Files.readAllLines(Path.of("README.md")).stream()
                .dropWhile(line -> !line.equals("```java"))
                .skip(1)
                .takeWhile(line -> !line.equals("```"))
                .filter(line -> !line.isBlank() && !line.equals("RunSorter sorter = new RunSorter();"))
                .toList();
    }

    private void play(String line) {
        Checks.sentence("README.md: " + line);
        Matcher parts = LINE.matcher(line);
        boolean readable = parts.matches();
        Checks.due("a call with its answer", readable, true);
        if (!readable) {
            return;
        }
        String name = parts.group(1);
        String answer = call(method(name), parts.group(2));
        Checks.due(name, answer, parts.group(3));
        shown.add(answer.startsWith("throws") ? name + " " + answer : name);
        showsRow(parts.group(4) == null ? "" : parts.group(4));
    }

    private void showsRow(String words) {
        Matcher row = ROW.matcher(words);
        if (row.matches()) {
            Checks.due("the row", Checks.row(sorter), joined(row.group(1).split(", "), row.group(2).split(", ")));
        } else if (words.equals("the row is empty")) {
            Checks.due("the row", Checks.row(sorter), "");
        } else {
            Checks.due("tells a row that can be read", words.contains("the row is"), false);
        }
    }

    private static String joined(String[] numbers, String[] tags) {
        StringBuilder text = new StringBuilder();
        for (int i = 0; i < numbers.length && i < tags.length; i++) {
            text.append(i == 0 ? "" : " ").append(numbers[i]).append(':').append(tags[i]);
        }
        return text.toString();
    }

    private void showsTheWholeFace() {
        Checks.sentence("README.md's example");
        for (Method method : RunSorter.class.getDeclaredMethods()) {
            if (Modifier.isPublic(method.getModifiers())) {
                Checks.due("shows " + method.getName(), shown.contains(method.getName()), true);
                for (Class<?> thrown : method.getExceptionTypes()) {
                    String refusal = method.getName() + " throws " + thrown.getSimpleName();
                    Checks.due("shows " + refusal, shown.contains(refusal), true);
                }
            }
        }
    }

    private static Method method(String name) {
        return Arrays.stream(RunSorter.class.getMethods())
                .filter(method -> method.getName().equals(name))
                .findFirst().orElseThrow();
    }

    private String call(Method method, String arguments) {
        Object[] values = Arrays.stream(arguments.split(", "))
                .filter(text -> !text.isEmpty())
                .map(RunSorterReadmeTest::value)
                .toArray();
        try {
            return method.invoke(sorter, values).toString();
        } catch (InvocationTargetException e) {
            return "throws " + e.getCause().getClass().getSimpleName();
        } catch (IllegalAccessException e) {
            throw new IllegalStateException(e);
        }
    }

    private static Object value(String text) {
        return text.equals("true") || text.equals("false") ? (Object) Boolean.valueOf(text) : Integer.valueOf(text);
    }
}
