import java.util.function.IntSupplier;

/** Long mixed runs of calls, each answer held against a model that leans on the Java library. */
public final class RunSorterModelTest {
    private static final int RUNS = 400;
    // Each call is followed by a hash: an object is promised for 512 calls.
    private static final int CALLS = 250;

    public static void main(String[] args) {
        for (int run = 0; run < RUNS; run++) {
            new RunSorterModelTest(run).play();
        }
        Checks.end();
    }

    private final int run;
    private final RunSorter sorter = new RunSorter();
    private final RowModel model = new RowModel();
    private long state;

    private RunSorterModelTest(int run) {
        this.run = run;
        this.state = run;
    }

    private void play() {
        for (int call = 0; call < CALLS; call++) {
            step();
            same("hash()", sorter::hash, model::hash);
        }
    }

    private void step() {
        switch (below(12)) {
            case 0 -> fill(number(), pick(0, 1, -1, 3, number()), amount());
            case 1 -> scatter(number(), pick(1, 2, 4, 16, below(18)), amount());
            case 2, 3, 4 -> sort(pick(0, 1, 2, 3, below(6) - 1), index(), index());
            case 5 -> get(index());
            case 6 -> tag(index());
            case 7 -> set(index(), number());
            case 8 -> turn(index(), index());
            case 9, 10 -> upTo(pick(0, 1, 2, 3, below(6) - 1), nearby(), below(2) == 0);
            default -> clearSeldom();
        }
    }

    private void fill(int x, int step, int n) {
        same("fill(" + x + ", " + step + ", " + n + ")", () -> sorter.fill(x, step, n), () -> model.fill(x, step, n));
    }

    private void scatter(int x, int bits, int n) {
        same("scatter(" + x + ", " + bits + ", " + n + ")",
                () -> sorter.scatter(x, bits, n), () -> model.scatter(x, bits, n));
    }

    // The two ends mostly come in the right order, so that most calls do sort.
    private void sort(int order, int a, int b) {
        int from = below(10) == 0 ? a : Math.min(a, b);
        int to = a + b - from;
        same("sort(" + order + ", " + from + ", " + to + ")",
                () -> sorter.sort(order, from, to), () -> model.sort(order, from, to));
    }

    private void get(int i) {
        same("get(" + i + ")", () -> sorter.get(i), () -> model.get(i));
    }

    private void tag(int i) {
        same("tag(" + i + ")", () -> sorter.tag(i), () -> model.tag(i));
    }

    private void set(int i, int x) {
        same("set(" + i + ", " + x + ")", () -> sorter.set(i, x), () -> model.set(i, x));
    }

    private void turn(int a, int b) {
        int from = below(10) == 0 ? a : Math.min(a, b);
        int to = a + b - from;
        same("turn(" + from + ", " + to + ")", () -> sorter.turn(from, to), () -> model.turn(from, to));
    }

    private void upTo(int order, int x, boolean beyond) {
        same("upTo(" + order + ", " + x + ", " + beyond + ")",
                () -> sorter.upTo(order, x, beyond), () -> model.upTo(order, x, beyond));
    }

    private void clearSeldom() {
        if (below(4) == 0) {
            same("clear()", sorter::clear, model::clear);
        }
    }

    private void same(String call, IntSupplier got, IntSupplier want) {
        Checks.due("run " + run + ": " + call, Checks.outcome(got), Checks.outcome(want));
    }

    // A source of its own, so that every run of the test makes the same calls.
    private int below(int bound) {
        state = state * 6364136223846793005L + 1442695040888963407L;
        return (int) Math.floorMod(state >>> 33, (long) bound);
    }

    private int pick(int... choices) {
        return choices[below(choices.length)];
    }

    private int number() {
        return pick(below(8), below(64) - 32, below(1 << 16), below(1 << 30) << 2, Integer.MIN_VALUE, Integer.MAX_VALUE);
    }

    private int amount() {
        return pick(below(4), below(40), below(300), below(2100) - 50);
    }

    private int index() {
        int size = model.size();
        return pick(0, size, below(size + 1), below(size + 1), below(size + 3) - 1);
    }

    // Mostly a number that the row holds, where before and not behind differ.
    private int nearby() {
        int size = model.size();
        return size == 0 || below(3) == 0 ? number() : model.get(below(size));
    }
}
