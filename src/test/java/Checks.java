import java.util.ArrayList;
import java.util.List;
import java.util.Objects;
import java.util.function.IntSupplier;
import java.util.function.Supplier;
import java.util.function.ToIntFunction;

/** Counts what is not as due, prints it, and ends the program with exit code 1 if there was any. */
final class Checks {
    static final Class<?> RANGE = IllegalArgumentException.class;
    static final Class<?> BOUNDS = IndexOutOfBoundsException.class;
    static final int MIN = Integer.MIN_VALUE;
    static final int MAX = Integer.MAX_VALUE;

    // An object is promised for 512 calls, so a long row is read at its two ends alone.
    private static final int READ_AT_EACH_END = 50;

    private static String sentence = "";
    private static int made = 0;
    private static int wrong = 0;

    private Checks() {
    }

    /** Names what the checks from here on hold the class to. */
    static void sentence(String words) {
        sentence = words + ": ";
    }

    static void due(String what, Object got, Object want) {
        made++;
        if (!Objects.equals(got, want)) {
            wrong++;
            System.out.println(sentence + what + " answered " + got + ", due is " + want);
        }
    }

    /** The answer of a call as a number, or as the class of what it throws. */
    static Object outcome(IntSupplier call) {
        try {
            return call.getAsInt();
        } catch (RuntimeException e) {
            return e.getClass();
        }
    }

    /** A call must throw just this, and its object must go on like one that never got the call. */
    static void refused(String what, Supplier<RunSorter> maker, Class<?> want, ToIntFunction<RunSorter> call) {
        RunSorter called = maker.get();
        due(what, outcome(() -> call.applyAsInt(called)), want);
        due("what comes after " + what, goingOn(called), goingOn(maker.get()));
    }

    // Every answer that tells something of the state, by calls that change it more and more.
    private static List<Object> goingOn(RunSorter sorter) {
        List<Object> answers = new ArrayList<>();
        int size = size(sorter);
        answers.add(size);
        answers.add(sorter.hash());
        answers.add(row(sorter));
        answers.add(outcome(() -> sorter.get(size)));
        for (int order = 0; order < 4; order++) {
            answers.add(sorter.upTo(order, 0, true));
            answers.add(sorter.sort(order, 0, size));
            answers.add(sorter.hash());
        }
        answers.add(sorter.turn(0, size));
        answers.add(sorter.hash());
        answers.add(outcome(() -> sorter.fill(7, 5, 1)));
        answers.add(outcome(() -> sorter.fill(7, 5, 2000 - size)));
        answers.add(sorter.hash());
        answers.add(sorter.clear());
        answers.add(sorter.scatter(9, 8, 3));
        answers.add(row(sorter));
        return answers;
    }

    static int size(RunSorter sorter) {
        return sorter.fill(0, 0, 0);
    }

    /** The row, as "number:tag number:tag ..", of a long one the two ends. */
    static String row(RunSorter sorter) {
        StringBuilder text = new StringBuilder();
        for (int i = 0, size = size(sorter); i < size; i++) {
            if (i < READ_AT_EACH_END || i >= size - READ_AT_EACH_END) {
                text.append(i == 0 ? "" : " ").append(sorter.get(i)).append(':').append(sorter.tag(i));
            }
        }
        return text.toString();
    }

    /** A new object with these numbers, their indices being the tags. */
    static RunSorter holding(int... numbers) {
        RunSorter sorter = new RunSorter();
        for (int number : numbers) {
            sorter.fill(number, 0, 1);
        }
        return sorter;
    }

    /** A new object with so many numbers, not sorted in any of the orders if there are some. */
    static RunSorter filled(int size) {
        RunSorter sorter = new RunSorter();
        sorter.fill(-1, 1234567891, size);
        return sorter;
    }

    static void end() {
        System.out.println(made + " checks, " + wrong + " of them not as due");
        if (wrong != 0 || made == 0) {
            System.exit(1);
        }
    }
}
