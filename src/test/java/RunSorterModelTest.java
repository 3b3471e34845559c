import java.util.ArrayList;
import java.util.Collections;
import java.util.Comparator;
import java.util.List;
import java.util.function.IntSupplier;

/** Long mixed runs of calls, each answer held against a model that leans on the Java library. */
public final class RunSorterModelTest {
    private static final int RUNS = 400;
    // Each call is followed by a hash: an object is promised for 512 calls.
    private static final int CALLS = 250;

    public static void main(String[] args) {
        for (int run = 0; run < RUNS; run++) {
            new RunSorterModelTest(run).play();
        }
        Checks.end();
    }

    private record Item(int number, int tag) {
    }

    private static final class Model {
        private final List<Item> items = new ArrayList<>();

        int fill(int x, int step, int n) {
            require(n >= 0 && n <= 2000);
            requireRoom(n);
            int number = x;
            for (int i = 0; i < n; i++, number += step) {
                items.add(new Item(number, items.size()));
            }
            return items.size();
        }

        int scatter(int x, int bits, int n) {
            require(n >= 0 && n <= 2000 && bits >= 1 && bits <= 16);
            requireRoom(n);
            long seed = x;
            for (int i = 0; i < n; i++) {
                seed = (1664525L * seed + 1013904223L) & 0xFFFFFFFFL;
                items.add(new Item((int) ((seed / 65536) % (1L << bits)), items.size()));
            }
            return items.size();
        }

        int sort(int order, int from, int to) {
            require(order >= 0 && order <= 3);
            part(from, to).sort((a, b) -> compare(order, a.number(), b.number()));
            return to - from;
        }

        int get(int i) {
            return items.get(i).number();
        }

        int tag(int i) {
            return items.get(i).tag();
        }

        int set(int i, int x) {
            return items.set(i, new Item(x, items.get(i).tag())).number();
        }

        int turn(int from, int to) {
            Collections.reverse(part(from, to));
            return to - from;
        }

        int upTo(int order, int x, boolean beyond) {
            require(order >= 0 && order <= 3);
            return (int) items.stream()
                    .takeWhile(item -> compare(order, item.number(), x) < (beyond ? 1 : 0))
                    .count();
        }

        int clear() {
            int size = items.size();
            items.clear();
            return size;
        }

        int hash() {
            List<Integer> all = new ArrayList<>();
            for (Item item : items) {
                all.add(item.number());
                all.add(item.tag());
            }
            return all.hashCode();
        }

        private List<Item> part(int from, int to) {
            require(from >= 0 && from <= to && to <= items.size());
            return items.subList(from, to);
        }

        private void requireRoom(int n) {
            if (items.size() + n > 2000) {
                throw new IndexOutOfBoundsException();
            }
        }

        private static void require(boolean holds) {
            if (!holds) {
                throw new IllegalArgumentException();
            }
        }

        // Answers -1, 0 or 1.
        private static int compare(int order, int a, int b) {
            Comparator<Integer> comparator = switch (order) {
                case 0 -> Comparator.naturalOrder();
                case 1 -> Comparator.reverseOrder();
                case 2 -> Comparator.comparing(number -> Math.floorMod(number, 16));
                default -> Comparator.comparing(Integer::toUnsignedLong);
            };
            return Integer.signum(comparator.compare(a, b));
        }
    }

    private final int run;
    private final RunSorter sorter = new RunSorter();
    private final Model model = new Model();
    private long state;

    private RunSorterModelTest(int run) {
        this.run = run;
        this.state = run;
    }

    private void play() {
        for (int call = 0; call < CALLS; call++) {
            step();
            same("hash()", sorter::hash, model::hash);
        }
    }

    private void step() {
        switch (below(12)) {
            case 0 -> fill(number(), pick(0, 1, -1, 3, number()), amount());
            case 1 -> scatter(number(), pick(1, 2, 4, 16, below(18)), amount());
            case 2, 3, 4 -> sort(pick(0, 1, 2, 3, below(6) - 1), index(), index());
            case 5 -> get(index());
            case 6 -> tag(index());
            case 7 -> set(index(), number());
            case 8 -> turn(index(), index());
            case 9, 10 -> upTo(pick(0, 1, 2, 3, below(6) - 1), nearby(), below(2) == 0);
            default -> clearSeldom();
        }
    }

    private void fill(int x, int step, int n) {
        same("fill(" + x + ", " + step + ", " + n + ")", () -> sorter.fill(x, step, n), () -> model.fill(x, step, n));
    }

    private void scatter(int x, int bits, int n) {
        same("scatter(" + x + ", " + bits + ", " + n + ")",
                () -> sorter.scatter(x, bits, n), () -> model.scatter(x, bits, n));
    }

    // The two ends mostly come in the right order, so that most calls do sort.
    private void sort(int order, int a, int b) {
        int from = below(10) == 0 ? a : Math.min(a, b);
        int to = a + b - from;
        same("sort(" + order + ", " + from + ", " + to + ")",
                () -> sorter.sort(order, from, to), () -> model.sort(order, from, to));
    }

    private void get(int i) {
        same("get(" + i + ")", () -> sorter.get(i), () -> model.get(i));
    }

    private void tag(int i) {
        same("tag(" + i + ")", () -> sorter.tag(i), () -> model.tag(i));
    }

    private void set(int i, int x) {
        same("set(" + i + ", " + x + ")", () -> sorter.set(i, x), () -> model.set(i, x));
    }

    private void turn(int a, int b) {
        int from = below(10) == 0 ? a : Math.min(a, b);
        int to = a + b - from;
        same("turn(" + from + ", " + to + ")", () -> sorter.turn(from, to), () -> model.turn(from, to));
    }

    private void upTo(int order, int x, boolean beyond) {
        same("upTo(" + order + ", " + x + ", " + beyond + ")",
                () -> sorter.upTo(order, x, beyond), () -> model.upTo(order, x, beyond));
    }

    private void clearSeldom() {
        if (below(4) == 0) {
            same("clear()", sorter::clear, model::clear);
        }
    }

    private void same(String call, IntSupplier got, IntSupplier want) {
        Checks.due("run " + run + ": " + call, Checks.outcome(got), Checks.outcome(want));
    }

    // A source of its own, so that every run of the test makes the same calls.
    private int below(int bound) {
        state = state * 6364136223846793005L + 1442695040888963407L;
        return (int) Math.floorMod(state >>> 33, (long) bound);
    }

    private int pick(int... choices) {
        return choices[below(choices.length)];
    }

    private int number() {
        return pick(below(8), below(64) - 32, below(1 << 16), below(1 << 30) << 2, Integer.MIN_VALUE, Integer.MAX_VALUE);
    }

    private int amount() {
        return pick(below(4), below(40), below(300), below(2100) - 50);
    }

    private int index() {
        int size = model.items.size();
        return pick(0, size, below(size + 1), below(size + 1), below(size + 3) - 1);
    }

    // Mostly a number that the row holds, where before and not behind differ.
    private int nearby() {
        int size = model.items.size();
        return size == 0 || below(3) == 0 ? number() : model.get(below(size));
    }
}
