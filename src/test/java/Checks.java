import java.util.Objects;
import java.util.function.IntSupplier;

/** Counts what is not as due, prints it, and ends the program with exit code 1 if there was any. */
final class Checks {
    static final Class<?> RANGE = IllegalArgumentException.class;
    static final Class<?> BOUNDS = IndexOutOfBoundsException.class;

    private static int made = 0;
    private static int wrong = 0;

    private Checks() {
    }

    static void due(String what, Object got, Object want) {
        made++;
        if (!Objects.equals(got, want)) {
            wrong++;
            System.out.println(what + " answered " + got + ", due is " + want);
        }
    }

    /** The answer of a call as a number, or as the class of what it throws. */
    static Object outcome(IntSupplier call) {
        try {
            return call.getAsInt();
        } catch (RuntimeException e) {
            return e.getClass();
        }
    }

    /** A call must throw just this, and leave the row as it was. */
    static void refused(String what, RunSorter sorter, Class<?> want, IntSupplier call) {
        int hash = sorter.hash();
        int size = size(sorter);
        due(what, outcome(call), want);
        due("hash after " + what, sorter.hash(), hash);
        due("size after " + what, size(sorter), size);
    }

    static int size(RunSorter sorter) {
        return sorter.fill(0, 0, 0);
    }

    /** The whole row, as "number:tag number:tag ..". For short rows: it takes two calls for each number. */
    static String row(RunSorter sorter) {
        StringBuilder text = new StringBuilder();
        for (int i = 0, size = size(sorter); i < size; i++) {
            text.append(i == 0 ? "" : " ").append(sorter.get(i)).append(':').append(sorter.tag(i));
        }
        return text.toString();
    }

    /** A new object with these numbers, their indices being the tags. */
    static RunSorter holding(int... numbers) {
        RunSorter sorter = new RunSorter();
        for (int number : numbers) {
            sorter.fill(number, 0, 1);
        }
        return sorter;
    }

    static void end() {
        System.out.println(made + " checks, " + wrong + " of them not as due");
        if (wrong != 0 || made == 0) {
            System.exit(1);
        }
    }
}
