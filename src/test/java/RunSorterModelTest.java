import java.util.Map;
import java.util.TreeMap;
import java.util.function.IntSupplier;

/** Long mixed runs of calls, each answer held against a model that leans on the Java library. */
public final class RunSorterModelTest {
    private static final int RUNS = 100;
    private static final int MOST_CALLS = 512;
    private static final int LATE = 400;
    private static final int FULL = 2000;

    // How often each kind of outcome was met late in a run, to know that the runs do reach it.
    private static final Map<String, Integer> MET_LATE = new TreeMap<>();

    /** What a run is like, beside being mixed. */
    private enum Kind {
        /** A hash behind each call tells at once what went wrong. */
        LOOKED_AT,
        /** Calls alone: what one of them leaves behind shows in the later ones' answers. */
        UNSEEN,
        /** The row is filled first and seldom emptied, so that most calls meet 2000 numbers. */
        CROWDED,
        /** Never more than some dozen numbers, so that parts and alike numbers come thick. */
        SMALL
    }

    public static void main(String[] args) {
        for (int run = 0; run < RUNS; run++) {
            for (Kind kind : Kind.values()) {
                new RunSorterModelTest(kind, run).play();
            }
        }
        metAllLate();
        Checks.end();
    }

    private final Kind kind;
    private final int run;
    private final RunSorter sorter = new RunSorter();
    private final RowModel model = new RowModel();
    private int calls;
    private long state;

    private RunSorterModelTest(Kind kind, int run) {
        this.kind = kind;
        this.run = run;
        this.state = run * 4 + kind.ordinal();
    }

    private void play() {
        if (kind == Kind.CROWDED) {
            scatter(run, 1 + run % 16, FULL);
        }
        while (calls < MOST_CALLS - 1) {
            step();
            if (kind == Kind.LOOKED_AT) {
                hash();
            }
        }
        while (calls < MOST_CALLS) {
            hash();
        }
    }

    private void step() {
        switch (below(13)) {
            case 0 -> fill(number(), pick(0, 1, -1, 3, number()), amount());
            case 1 -> scatter(number(), pick(1, 2, 4, 16, below(18)), amount());
            case 2, 3, 4 -> sort(order(), index(), index());
            case 5 -> get(index());
            case 6 -> tag(index());
            case 7 -> set(index(), number());
            case 8 -> turn(index(), index());
            case 9, 10 -> upTo(order(), nearby(), below(2) == 0);
            case 11 -> hash();
            default -> clearSeldom();
        }
    }

    private void fill(int x, int step, int n) {
        same("fill", x + ", " + step + ", " + n, () -> sorter.fill(x, step, n), () -> model.fill(x, step, n));
    }

    private void scatter(int x, int bits, int n) {
        same("scatter", x + ", " + bits + ", " + n, () -> sorter.scatter(x, bits, n), () -> model.scatter(x, bits, n));
    }

    // The two ends mostly come in the right order, so that most calls do sort.
    private void sort(int order, int a, int b) {
        int from = below(10) == 0 ? a : Math.min(a, b);
        int to = a + b - from;
        same("sort", order + ", " + from + ", " + to,
                () -> sorter.sort(order, from, to), () -> model.sort(order, from, to));
    }

    private void get(int i) {
        same("get", "" + i, () -> sorter.get(i), () -> model.get(i));
    }

    private void tag(int i) {
        same("tag", "" + i, () -> sorter.tag(i), () -> model.tag(i));
    }

    private void set(int i, int x) {
        same("set", i + ", " + x, () -> sorter.set(i, x), () -> model.set(i, x));
    }

    private void turn(int a, int b) {
        int from = below(10) == 0 ? a : Math.min(a, b);
        int to = a + b - from;
        same("turn", from + ", " + to, () -> sorter.turn(from, to), () -> model.turn(from, to));
    }

    private void upTo(int order, int x, boolean beyond) {
        same("upTo", order + ", " + x + ", " + beyond,
                () -> sorter.upTo(order, x, beyond), () -> model.upTo(order, x, beyond));
    }

    private void clearSeldom() {
        if (below(kind == Kind.CROWDED ? 40 : 4) == 0) {
            same("clear", "", sorter::clear, model::clear);
        }
    }

    private void hash() {
        same("hash", "", sorter::hash, model::hash);
    }

    private void same(String name, String arguments, IntSupplier got, IntSupplier want) {
        calls++;
        String full = model.size() == FULL ? " of a full row" : "";
        Object due = Checks.outcome(want);
        Checks.due(kind + " run " + run + ", call " + calls + ": " + name + "(" + arguments + ")",
                Checks.outcome(got), due);
        if (calls > LATE) {
            String outcome = due instanceof Class<?> thrown ? " throws " + thrown.getSimpleName() : " answers";
            MET_LATE.merge(name + outcome + full, 1, Integer::sum);
        }
    }

    private static void metAllLate() {
        for (String name : new String[] {"fill", "scatter", "sort", "get", "tag", "set", "turn", "upTo", "clear", "hash"}) {
            metLate(name + " answers");
        }
        for (String name : new String[] {"fill", "scatter", "sort", "turn", "upTo"}) {
            metLate(name + " throws IllegalArgumentException");
        }
        for (String name : new String[] {"fill", "scatter", "get", "tag", "set"}) {
            metLate(name + " throws IndexOutOfBoundsException");
        }
    }

    private static void metLate(String outcome) {
        Checks.due(outcome + " is met late", MET_LATE.getOrDefault(outcome, 0) > 0, true);
        Checks.due(outcome + " of a full row is met late", MET_LATE.getOrDefault(outcome + " of a full row", 0) > 0, true);
    }

    // A source of its own, so that every run of the test makes the same calls.
    private int below(int bound) {
        state = state * 6364136223846793005L + 1442695040888963407L;
        return (int) Math.floorMod(state >>> 33, (long) bound);
    }

    private int pick(int... choices) {
        return choices[below(choices.length)];
    }

    private int order() {
        return pick(0, 1, 2, 3, below(6) - 1);
    }

    private int number() {
        return pick(below(8), below(64) - 32, below(1 << 16), below(1 << 30) << 2, Integer.MIN_VALUE, Integer.MAX_VALUE);
    }

    private int amount() {
        return switch (kind) {
            case SMALL -> pick(below(3), below(5) - 1, 2001);
            case CROWDED -> pick(0, 1, FULL - model.size(), FULL - model.size() + 1, below(2100) - 50);
            default -> pick(below(4), below(40), below(300), below(2100) - 50);
        };
    }

    private int index() {
        int size = model.size();
        return pick(0, size, below(size + 1), below(size + 1), below(size + 3) - 1);
    }

    // Mostly a number that the row holds, where before and not behind differ.
    private int nearby() {
        int size = model.size();
        return size == 0 || below(3) == 0 ? number() : model.get(below(size));
    }
}
