import java.util.function.IntSupplier;
import java.util.function.ToIntFunction;

/** The boundary cases that "What it is" and "Terms" name, sentence by sentence. */
public final class RunSorterTermsTest {
    private static final int MIN = Checks.MIN;
    private static final int MAX = Checks.MAX;
    private static final int MOST_CALLS = 512;
    private static final int[] EDGES = {
        MIN, MIN + 1, MIN + 15, -17, -16, -15, -2, -1, 0, 1, 7, 8, 14, 15, 16, 17, 31, 32, MAX - 15, MAX - 1, MAX};

    public static void main(String[] args) {
        everyMethodAnswersAsTheLastOf512Calls();
        growsUpToTheLastOf512Calls();
        sortsUpToTheLastOf512Calls();
        refusesUpToTheLastOf512Calls();
        holdsUpTo2000();
        holdsNoMoreThan2000();
        holdsInts();
        hasIndicesFrom0();
        tagsGoWhereTheirNumbersGo();
        order0Rises();
        order1Falls();
        order2TakesTheLowestFourBits();
        order3RisesWithoutSign();
        alikeIfNoneComesBefore();
        throwsForTheRangeFirst();
        throwingChangesNothing();
        Checks.end();
    }

    private static final String USED = "What it is: \"used for at most 512 calls after it has been made\"";

    private static void everyMethodAnswersAsTheLastOf512Calls() {
        Checks.sentence(USED);
        last("fill", sorter -> sorter.fill(1, 1, 1), 4);
        last("scatter", sorter -> sorter.scatter(1, 1, 1997), 2000);
        last("sort", sorter -> sorter.sort(0, 0, 3), 3);
        last("get", sorter -> sorter.get(2), 30);
        last("tag", sorter -> sorter.tag(2), 2);
        last("set", sorter -> sorter.set(2, 1), 30);
        last("turn", sorter -> sorter.turn(1, 3), 2);
        last("upTo", sorter -> sorter.upTo(0, 20, true), 2);
        last("clear", RunSorter::clear, 3);
        last("hash", RunSorter::hash, 1 * 887503681 + 10 * 28629151 + 20 * 29791 + 1 * 961 + 30 * 31 + 2);
        last("get refused", sorter -> sorter.get(3), Checks.BOUNDS);
        last("sort refused", sorter -> sorter.sort(4, 0, 3), Checks.RANGE);
    }

    private static void last(String what, ToIntFunction<RunSorter> call, Object want) {
        RunSorter sorter = new RunSorter();
        sorter.fill(10, 10, 3);
        for (int calls = 1; calls < MOST_CALLS - 1; calls++) {
            sorter.get(calls % 3);
        }
        Checks.due(what + " as call 512", Checks.outcome(() -> call.applyAsInt(sorter)), want);
    }

    private static void growsUpToTheLastOf512Calls() {
        Checks.sentence(USED);
        RunSorter sorter = new RunSorter();
        for (int calls = 1; calls <= MOST_CALLS; calls++) {
            Checks.due("fill(0, 0, 3) as call " + calls, sorter.fill(0, 0, 3), 3 * calls);
        }
        RunSorter emptied = new RunSorter();
        for (int calls = 2; calls <= MOST_CALLS; calls += 2) {
            Checks.due("fill(0, 0, 2000) as call " + (calls - 1), emptied.fill(0, 0, 2000), 2000);
            Checks.due("clear() as call " + calls, emptied.clear(), 2000);
        }
    }

    // A row turned against the order that it is in has as many runs as numbers, the most that a sort can meet.
    private static void sortsUpToTheLastOf512Calls() {
        Checks.sentence(USED);
        RunSorter sorter = new RunSorter();
        sorter.fill(0, 1, 2000);
        int rising = sorter.hash();
        for (int calls = 3; calls < MOST_CALLS; calls++) {
            int order = calls % 2;
            Checks.due("sort(" + order + ", 0, 2000) as call " + calls, sorter.sort(order, 0, 2000), 2000);
        }
        RunSorter falling = new RunSorter();
        falling.fill(0, 1, 2000);
        falling.turn(0, 2000);
        Checks.due("hash() as call 512", sorter.hash(), falling.hash());
        Checks.due("hash() of the turned row is another", falling.hash() != rising, true);
    }

    private static void refusesUpToTheLastOf512Calls() {
        Checks.sentence(USED);
        RunSorter sorter = new RunSorter();
        sorter.fill(5, 5, 3);
        for (int calls = 2; calls < MOST_CALLS; calls++) {
            Checks.due("fill(0, 0, 1998) as call " + calls, Checks.outcome(() -> sorter.fill(0, 0, 1998)), Checks.BOUNDS);
        }
        Checks.due("fill(0, 0, 1997) as call 512", sorter.fill(0, 0, 1997), 2000);
    }

    private static void holdsUpTo2000() {
        Checks.sentence("Terms: \"THE ROW holds up to 2000 NUMBERS\"");
        RunSorter sorter = new RunSorter();
        RowModel model = new RowModel();
        for (int calls = 1; calls <= 200; calls++) {
            sorter.fill(calls * 1000003, -7, 5);
            model.fill(calls * 1000003, -7, 5);
            Checks.due("scatter(" + calls + ", 16, 5)", sorter.scatter(calls, 16, 5), model.scatter(calls, 16, 5));
        }
        Checks.due("size", Checks.size(sorter), 2000);
        same("the full row", sorter, model);
        for (int order = 0; order < 4; order++) {
            sorter.sort(order, 0, 2000);
            model.sort(order, 0, 2000);
            same("the full row in order " + order, sorter, model);
        }
        Checks.due("upTo(3, -1, true)", sorter.upTo(3, -1, true), 2000);
        Checks.due("turn(0, 2000)", sorter.turn(0, 2000), model.turn(0, 2000));
        same("the full row turned", sorter, model);
        Checks.due("set(1999, 4)", sorter.set(1999, 4), model.set(1999, 4));
        same("the full row with another last number", sorter, model);
        Checks.due("clear()", sorter.clear(), 2000);
    }

    private static void same(String what, RunSorter sorter, RowModel model) {
        Checks.due("hash() of " + what, sorter.hash(), model.hash());
        for (int i : new int[] {0, 1, 999, 1000, 1998, 1999}) {
            Checks.due("get(" + i + ") of " + what, sorter.get(i), model.get(i));
            Checks.due("tag(" + i + ") of " + what, sorter.tag(i), model.tag(i));
        }
    }

    private static void holdsNoMoreThan2000() {
        Checks.sentence("Terms: \"THE ROW holds up to 2000 NUMBERS\"");
        Checks.refused("fill(0, 0, 1) with 2000", () -> Checks.filled(2000), Checks.BOUNDS, sorter -> sorter.fill(0, 0, 1));
        Checks.refused("scatter(0, 1, 1) with 2000", () -> Checks.filled(2000), Checks.BOUNDS,
                sorter -> sorter.scatter(0, 1, 1));
        Checks.refused("get(2000) with 2000", () -> Checks.filled(2000), Checks.BOUNDS, sorter -> sorter.get(2000));
        Checks.refused("sort(0, 0, 2001) with 2000", () -> Checks.filled(2000), Checks.RANGE,
                sorter -> sorter.sort(0, 0, 2001));
    }

    private static void holdsInts() {
        Checks.sentence("Terms: \"NUMBERS, ints\"");
        RunSorter sorter = Checks.holding(EDGES);
        for (int i = 0; i < EDGES.length; i++) {
            Checks.due("get(" + i + ")", sorter.get(i), EDGES[i]);
            Checks.due("set(" + i + ", " + ~EDGES[i] + ")", sorter.set(i, ~EDGES[i]), EDGES[i]);
            Checks.due("get(" + i + ") when set", sorter.get(i), ~EDGES[i]);
        }
    }

    private static void hasIndicesFrom0() {
        Checks.sentence("Terms: \"with indices from 0\"");
        RunSorter sorter = Checks.holding(10, 20, 30);
        Checks.due("get(0)", sorter.get(0), 10);
        Checks.due("tag(0)", sorter.tag(0), 0);
        Checks.due("get(2)", sorter.get(2), 30);
        Checks.due("tag(2)", sorter.tag(2), 2);
        Checks.refused("get(3)", () -> Checks.holding(10, 20, 30), Checks.BOUNDS, other -> other.get(3));
        Checks.refused("get(-1)", () -> Checks.holding(10, 20, 30), Checks.BOUNDS, other -> other.get(-1));
    }

    private static void tagsGoWhereTheirNumbersGo() {
        Checks.sentence("Terms: \"each with a TAG, an int, that goes where it goes\"");
        RunSorter sorter = Checks.holding(3, -1, 18, -1);
        sorter.sort(0, 0, 4);
        Checks.due("order 0", Checks.row(sorter), "-1:1 -1:3 3:0 18:2");
        sorter.sort(1, 0, 4);
        Checks.due("order 1", Checks.row(sorter), "18:2 3:0 -1:1 -1:3");
        sorter.turn(0, 4);
        Checks.due("turned", Checks.row(sorter), "-1:3 -1:1 3:0 18:2");
        sorter.sort(2, 0, 4);
        Checks.due("order 2", Checks.row(sorter), "18:2 3:0 -1:3 -1:1");
        sorter.sort(3, 0, 4);
        Checks.due("order 3", Checks.row(sorter), "3:0 18:2 -1:3 -1:1");
        sorter.set(0, 50);
        sorter.sort(1, 0, 4);
        Checks.due("order 1 after set(0, 50)", Checks.row(sorter), "50:0 18:2 -1:3 -1:1");
    }

    private static void order0Rises() {
        Checks.sentence("Terms: \"0 as NUMBERS rise\"");
        pairs(0);
        chain(0, MIN, MIN + 1, -2, -1, 0, 1, 15, 16, MAX - 1, MAX);
    }

    private static void order1Falls() {
        Checks.sentence("Terms: \"1 as they fall\"");
        pairs(1);
        chain(1, MAX, MAX - 1, 16, 15, 1, 0, -1, -2, MIN + 1, MIN);
    }

    private static void order2TakesTheLowestFourBits() {
        Checks.sentence("Terms: \"2 by their lowest 4 bits, 0 to 15\"");
        pairs(2);
        chain(2, MIN, 17, -14, 3, MAX - 11, 5, 1000006, 7, -8, 9, 26, MIN + 11, -4, 13, 30, -1);
    }

    private static void order3RisesWithoutSign() {
        Checks.sentence("Terms: \"3 as they rise without sign\"");
        pairs(3);
        chain(3, 0, 1, 15, 16, MAX - 1, MAX, MIN, MIN + 1, -2, -1);
    }

    // Each two of the edges, sorted and looked up: one before the other, or alike.
    private static void pairs(int order) {
        for (int a : EDGES) {
            for (int b : EDGES) {
                boolean turned = comesBefore(order, b, a);
                RunSorter sorter = Checks.holding(a, b);
                Checks.due("upTo(" + order + ", " + b + ", false) of " + a + " alone",
                        Checks.holding(a).upTo(order, b, false), comesBefore(order, a, b) ? 1 : 0);
                Checks.due("upTo(" + order + ", " + b + ", true) of " + a + " alone",
                        Checks.holding(a).upTo(order, b, true), turned ? 0 : 1);
                sorter.sort(order, 0, 2);
                Checks.due(a + ", " + b + " in order " + order, Checks.row(sorter),
                        turned ? b + ":1 " + a + ":0" : a + ":0 " + b + ":1");
            }
        }
    }

    private static boolean comesBefore(int order, int a, int b) {
        return switch (order) {
            case 0 -> (long) a - b < 0;
            case 1 -> (long) a - b > 0;
            case 2 -> Math.floorMod(a, 16) < Math.floorMod(b, 16);
            default -> (a & 0xFFFFFFFFL) < (b & 0xFFFFFFFFL);
        };
    }

    // The numbers are given as they are due, and are put in from the last to the first.
    private static void chain(int order, int... due) {
        RunSorter sorter = Checks.holding(due);
        sorter.turn(0, due.length);
        int turned = sorter.hash();
        sorter.sort(order, 0, due.length);
        Checks.due("sorted chain", Checks.row(sorter), Checks.row(Checks.holding(due)));
        sorter.turn(0, due.length);
        Checks.due("the chain turned again", sorter.hash(), turned);
    }

    private static void alikeIfNoneComesBefore() {
        Checks.sentence("Terms: \"Two are ALIKE in one if none comes before the other.\"");
        int[] apartInTheUpperBits = {16, 0, -16, MIN, MAX - 15, 1 << 30, 48};
        RunSorter sorter = Checks.holding(apartInTheUpperBits);
        int before = sorter.hash();
        sorter.sort(2, 0, apartInTheUpperBits.length);
        Checks.due("alike in order 2, sorted", sorter.hash(), before);
        for (int x : apartInTheUpperBits) {
            Checks.due("upTo(2, " + x + ", false)", sorter.upTo(2, x, false), 0);
            Checks.due("upTo(2, " + x + ", true)", sorter.upTo(2, x, true), apartInTheUpperBits.length);
        }
        for (int order : new int[] {0, 1, 3}) {
            RunSorter same = Checks.holding(-5, -5, -5);
            same.sort(order, 0, 3);
            Checks.due("the same in order " + order, Checks.row(same), "-5:0 -5:1 -5:2");
            Checks.due("upTo(" + order + ", -5, false)", same.upTo(order, -5, false), 0);
            Checks.due("upTo(" + order + ", -5, true)", same.upTo(order, -5, true), 3);
        }
    }

    private static void throwsForTheRangeFirst() {
        Checks.sentence("Terms: \"in this order: IllegalArgumentException: a number out of range; then as the call says\"");
        Checks.refused("fill(0, 0, 2001) with 2000", () -> Checks.filled(2000), Checks.RANGE, full -> full.fill(0, 0, 2001));
        Checks.refused("fill(0, 0, MAX) with 2000", () -> Checks.filled(2000), Checks.RANGE, full -> full.fill(0, 0, MAX));
        Checks.refused("fill(0, 0, -1) with 2000", () -> Checks.filled(2000), Checks.RANGE, full -> full.fill(0, 0, -1));
        Checks.refused("scatter(0, 1, 2001) with 2000", () -> Checks.filled(2000), Checks.RANGE,
                full -> full.scatter(0, 1, 2001));
        Checks.refused("scatter(0, 0, 1) with 2000", () -> Checks.filled(2000), Checks.RANGE, full -> full.scatter(0, 0, 1));
        Checks.refused("scatter(0, 17, 1) with 2000", () -> Checks.filled(2000), Checks.RANGE,
                full -> full.scatter(0, 17, 1));
        Checks.refused("scatter(0, 17, 2000) with 1", () -> Checks.filled(1), Checks.RANGE,
                one -> one.scatter(0, 17, 2000));
    }

    // Each kind of refusal on one object, one behind the other: only a later look can tell of a change.
    private static void throwingChangesNothing() {
        Checks.sentence("Terms: \"A call that throws changes nothing.\"");
        for (int size : new int[] {0, 1, 2, 17, 1999, 2000}) {
            Checks.refused("a row of refused calls with " + size, () -> moved(size), Checks.BOUNDS,
                    sorter -> refuseAll(sorter, size));
        }
    }

    private static RunSorter moved(int size) {
        RunSorter sorter = Checks.filled(size);
        sorter.sort(2, 0, size);
        sorter.turn(size / 3, size);
        return sorter;
    }

    private static int refuseAll(RunSorter sorter, int size) {
        refuse("fill(1, 1, -1)", Checks.RANGE, () -> sorter.fill(1, 1, -1));
        refuse("fill(1, 1, 2001)", Checks.RANGE, () -> sorter.fill(1, 1, 2001));
        refuse("scatter(1, 0, 1)", Checks.RANGE, () -> sorter.scatter(1, 0, 1));
        refuse("scatter(1, 17, 1)", Checks.RANGE, () -> sorter.scatter(1, 17, 1));
        refuse("scatter(1, 4, -1)", Checks.RANGE, () -> sorter.scatter(1, 4, -1));
        refuse("sort(-1, 0, size)", Checks.RANGE, () -> sorter.sort(-1, 0, size));
        refuse("sort(4, 0, size)", Checks.RANGE, () -> sorter.sort(4, 0, size));
        refuse("sort(1, -1, size)", Checks.RANGE, () -> sorter.sort(1, -1, size));
        refuse("sort(1, 0, size + 1)", Checks.RANGE, () -> sorter.sort(1, 0, size + 1));
        refuse("turn(-1, size)", Checks.RANGE, () -> sorter.turn(-1, size));
        refuse("turn(0, size + 1)", Checks.RANGE, () -> sorter.turn(0, size + 1));
        refuse("upTo(4, 0, true)", Checks.RANGE, () -> sorter.upTo(4, 0, true));
        refuse("get(size)", Checks.BOUNDS, () -> sorter.get(size));
        refuse("tag(-1)", Checks.BOUNDS, () -> sorter.tag(-1));
        refuse("set(size, 99)", Checks.BOUNDS, () -> sorter.set(size, 99));
        refuse("set(-1, 99)", Checks.BOUNDS, () -> sorter.set(-1, 99));
        // With nothing in the row no fill can be too long, and this last one is refused for its index.
        return size == 0 ? sorter.get(0) : sorter.fill(1, 1, 2001 - size);
    }

    private static void refuse(String what, Class<?> want, IntSupplier call) {
        Checks.due(what, Checks.outcome(call), want);
    }
}
