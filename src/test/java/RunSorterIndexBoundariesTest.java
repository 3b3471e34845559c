import java.util.function.ToIntFunction;

/** The boundary cases that promises 5, 6 and 7 name, sentence by sentence: one number by its index. */
public final class RunSorterIndexBoundariesTest {
    private static final int MIN = Checks.MIN;
    private static final int MAX = Checks.MAX;

    private interface IndexedCall {
        int at(RunSorter sorter, int i);
    }

    public static void main(String[] args) {
        getTakesEveryIndex();
        getRefusesWhereThereIsNone();
        tagTakesEveryIndex();
        tagRefusesWhereThereIsNone();
        setTakesEveryIndex();
        setRefusesWhereThereIsNone();
        setLeavesTheTag();
        setAnswersWhatItWas();
        Checks.end();
    }

    private static void getTakesEveryIndex() {
        Checks.sentence("Promise 5: \"The NUMBER at index i\"");
        RunSorter sorter = Checks.filled(2000);
        for (int i : new int[] {0, 1, 2, 1000, 1998, 1999}) {
            Checks.due("get(" + i + ")", sorter.get(i), -1 + i * 1234567891);
        }
        Checks.due("get(0) of one", Checks.holding(MIN).get(0), MIN);
    }

    private static void getRefusesWhereThereIsNone() {
        Checks.sentence("Promise 5: \"there is none: IndexOutOfBoundsException\"");
        refusesWhereThereIsNone("get", RunSorter::get);
    }

    private static void tagTakesEveryIndex() {
        Checks.sentence("Promise 6: \"Its TAG.\"");
        RunSorter sorter = Checks.filled(2000);
        sorter.turn(0, 2000);
        for (int i : new int[] {0, 1, 2, 1000, 1998, 1999}) {
            Checks.due("tag(" + i + ")", sorter.tag(i), 1999 - i);
        }
    }

    private static void tagRefusesWhereThereIsNone() {
        Checks.sentence("Promise 6: (of promise 5) \"there is none: IndexOutOfBoundsException\"");
        refusesWhereThereIsNone("tag", RunSorter::tag);
    }

    private static void setTakesEveryIndex() {
        Checks.sentence("Promise 7: \"x comes in place of the NUMBER at index i\"");
        for (int i = 0; i < 3; i++) {
            RunSorter sorter = Checks.holding(10, 20, 30);
            int[] want = {10, 20, 30};
            want[i] = MIN;
            sorter.set(i, MIN);
            Checks.due("the row after set(" + i + ", MIN)", Checks.row(sorter), Checks.row(Checks.holding(want)));
        }
        RunSorter full = Checks.filled(2000);
        full.set(1999, MAX);
        Checks.due("get(1999) after set(1999, MAX)", full.get(1999), MAX);
        Checks.due("get(1998) after set(1999, MAX)", full.get(1998), -1 + 1998 * 1234567891);
        Checks.due("size after set(1999, MAX)", Checks.size(full), 2000);
    }

    private static void setRefusesWhereThereIsNone() {
        Checks.sentence("Promise 7: (as in promise 5) \"there is none: IndexOutOfBoundsException\"");
        refusesWhereThereIsNone("set", (sorter, i) -> sorter.set(i, 77));
    }

    private static void refusesWhereThereIsNone(String name, IndexedCall call) {
        for (int size : new int[] {0, 1, 3, 1999, 2000}) {
            for (int i : new int[] {MIN, MIN + size, -size - 1, -1, size, size + 1, 2000, 2001, 65536, MAX}) {
                ToIntFunction<RunSorter> there = sorter -> call.at(sorter, i);
                Checks.refused(name + " at " + i + " with " + size, () -> Checks.filled(size), Checks.BOUNDS, there);
            }
        }
        Checks.refused(name + " at 2 where a clear took it", RunSorterIndexBoundariesTest::grownAgain, Checks.BOUNDS,
                sorter -> call.at(sorter, 2));
    }

    private static RunSorter grownAgain() {
        RunSorter sorter = Checks.holding(10, 20, 30);
        sorter.clear();
        sorter.fill(40, 1, 2);
        return sorter;
    }

    private static void setLeavesTheTag() {
        Checks.sentence("Promise 7: \"the TAG stays\"");
        RunSorter sorter = Checks.holding(30, 20, 10);
        sorter.sort(0, 0, 3);
        sorter.set(0, 99);
        sorter.set(2, MIN);
        Checks.due("row", Checks.row(sorter), "99:2 20:1 " + MIN + ":0");
        sorter.sort(0, 0, 3);
        Checks.due("sorted row", Checks.row(sorter), MIN + ":0 20:1 99:2");
    }

    private static void setAnswersWhatItWas() {
        Checks.sentence("Promise 7: \"Answers what it was.\"");
        RunSorter sorter = Checks.holding(MAX);
        Checks.due("set(0, MIN)", sorter.set(0, MIN), MAX);
        Checks.due("set(0, MIN) again", sorter.set(0, MIN), MIN);
        Checks.due("set(0, 0)", sorter.set(0, 0), MIN);
        Checks.due("set(0, -1)", sorter.set(0, -1), 0);
    }
}
