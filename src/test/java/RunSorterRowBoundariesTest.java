/** The boundary cases that promises 1, 2, 3, 10 and 11 name, sentence by sentence: how the row grows and is emptied. */
public final class RunSorterRowBoundariesTest {
    private static final int MIN = Checks.MIN;
    private static final int MAX = Checks.MAX;

    private interface GrowingCall {
        int by(RunSorter sorter, int n);
    }

    public static void main(String[] args) {
        newRowIsEmpty();
        newRowIsItsOwn();
        fillTakes0To2000();
        fillRefusesOtherCounts();
        fillWraps();
        fillComesBehindTheOthers();
        fillGivesIndicesAsTags();
        fillRefusesMoreThan2000();
        fillAnswersHowManyThereAre();
        scatterTakes0To2000();
        scatterRefusesOtherCounts();
        scatterTakes1To16Bits();
        scatterRefusesOtherBits();
        scatterWraps();
        scatterStepsBeforeEachNumber();
        scatterShiftsWithoutSign();
        scatterIsLikewise();
        scatterRefusesMoreThan2000();
        clearOfAnEmptyRow();
        clearOfAFullRow();
        clearLeavesNoNumbers();
        hashOfAnEmptyRow();
        hashWraps();
        hashTakesTheNumberFirst();
        Checks.end();
    }

    private static void newRowIsEmpty() {
        Checks.sentence("Promise 1: \"THE ROW is empty.\"");
        Checks.due("clear()", new RunSorter().clear(), 0);
        Checks.due("hash()", new RunSorter().hash(), 1);
        Checks.due("fill(0, 0, 0)", new RunSorter().fill(0, 0, 0), 0);
        Checks.due("sort(0, 0, 0)", new RunSorter().sort(0, 0, 0), 0);
        Checks.due("turn(0, 0)", new RunSorter().turn(0, 0), 0);
        Checks.due("upTo(0, MAX, true)", new RunSorter().upTo(0, MAX, true), 0);
        Checks.refused("get(0)", RunSorter::new, Checks.BOUNDS, sorter -> sorter.get(0));
        Checks.refused("tag(0)", RunSorter::new, Checks.BOUNDS, sorter -> sorter.tag(0));
        Checks.refused("set(0, 1)", RunSorter::new, Checks.BOUNDS, sorter -> sorter.set(0, 1));
        Checks.refused("sort(0, 0, 1)", RunSorter::new, Checks.RANGE, sorter -> sorter.sort(0, 0, 1));
        Checks.refused("turn(0, 1)", RunSorter::new, Checks.RANGE, sorter -> sorter.turn(0, 1));
    }

    private static void newRowIsItsOwn() {
        Checks.sentence("Promise 1: \"THE ROW is empty.\"");
        RunSorter first = Checks.holding(1, 2);
        RunSorter second = new RunSorter();
        Checks.due("the second's row", Checks.row(second), "");
        second.fill(9, 0, 3);
        second.sort(1, 0, 3);
        Checks.due("the first's row", Checks.row(first), "1:0 2:1");
        first.clear();
        Checks.due("the second's row when the first is cleared", Checks.row(second), "9:0 9:1 9:2");
    }

    private static void fillTakes0To2000() {
        Checks.sentence("Promise 2: \"n 0 .. 2000\"");
        for (int n : new int[] {0, 1, 2, 1999, 2000}) {
            RunSorter sorter = new RunSorter();
            Checks.due("fill(4, 3, " + n + ")", sorter.fill(4, 3, n), n);
            Checks.due("clear() of " + n, sorter.clear(), n);
        }
        RunSorter none = Checks.holding(6, 5);
        none.fill(4, 3, 0);
        Checks.due("the row after fill(4, 3, 0)", Checks.row(none), "6:0 5:1");
    }

    private static void fillRefusesOtherCounts() {
        Checks.sentence("Promise 2: \"n 0 .. 2000\"");
        refusesOtherCounts("fill", (sorter, n) -> sorter.fill(4, 3, n));
    }

    private static void refusesOtherCounts(String name, GrowingCall call) {
        for (int n : new int[] {MIN, MIN + 2000, -2000, -1, 2001, 2002, 4000, 65536, MAX}) {
            for (int size : new int[] {0, 3, 1999, 2000}) {
                Checks.refused(name + " by " + n + " with " + size, () -> Checks.filled(size), Checks.RANGE,
                        sorter -> call.by(sorter, n));
            }
        }
    }

    private static void fillWraps() {
        Checks.sentence("Promise 2: \"(they wrap)\"");
        filled(MAX, 1, 3, MAX + ":0 " + MIN + ":1 " + (MIN + 1) + ":2");
        filled(MIN, -1, 3, MIN + ":0 " + MAX + ":1 " + (MAX - 1) + ":2");
        filled(0, MIN, 4, "0:0 " + MIN + ":1 0:2 " + MIN + ":3");
        filled(5, MAX, 3, "5:0 " + (MIN + 4) + ":1 3:2");
        filled(1 << 30, 1 << 30, 5, (1 << 30) + ":0 " + MIN + ":1 " + (-1 << 30) + ":2 0:3 " + (1 << 30) + ":4");
        RunSorter longest = new RunSorter();
        longest.fill(1, MAX, 2000);
        Checks.due("get(1998) of fill(1, MAX, 2000)", longest.get(1998), -1997);
        Checks.due("get(1999) of fill(1, MAX, 2000)", longest.get(1999), MAX - 1997);
    }

    private static void filled(int x, int step, int n, String want) {
        RunSorter sorter = new RunSorter();
        sorter.fill(x, step, n);
        Checks.due("fill(" + x + ", " + step + ", " + n + ")", Checks.row(sorter), want);
    }

    private static void fillComesBehindTheOthers() {
        Checks.sentence("Promise 2: \"x, x + step, .. come behind the others\"");
        RunSorter sorter = new RunSorter();
        sorter.fill(50, 0, 1);
        sorter.fill(9, -4, 2);
        sorter.fill(-3, 1, 2);
        Checks.due("row", Checks.row(sorter), "50:0 9:1 5:2 -3:3 -2:4");
    }

    private static void fillGivesIndicesAsTags() {
        Checks.sentence("Promise 2: \"with their indices as TAGS\"");
        RunSorter sorter = Checks.holding(3, 2, 1);
        sorter.sort(0, 0, 3);
        sorter.fill(0, 0, 2);
        Checks.due("behind a sorted row", Checks.row(sorter), "1:2 2:1 3:0 0:3 0:4");
        RunSorter almostFull = Checks.filled(1999);
        almostFull.turn(0, 1999);
        almostFull.fill(0, 0, 1);
        Checks.due("tag(1999)", almostFull.tag(1999), 1999);
        Checks.due("tag(0)", almostFull.tag(0), 1998);
    }

    private static void fillRefusesMoreThan2000() {
        Checks.sentence("Promise 2: \"more than 2000: IndexOutOfBoundsException\"");
        refusesMoreThan2000("fill", (sorter, n) -> sorter.fill(7, 1, n));
    }

    private static void refusesMoreThan2000(String name, GrowingCall call) {
        for (int size : new int[] {1, 2, 1000, 1999, 2000}) {
            int room = 2000 - size;
            Checks.due(name + " by " + room + " with " + size, call.by(Checks.filled(size), room), 2000);
            Checks.refused(name + " by " + (room + 1) + " with " + size, () -> Checks.filled(size), Checks.BOUNDS,
                    sorter -> call.by(sorter, room + 1));
            Checks.refused(name + " by 2000 with " + size, () -> Checks.filled(size), Checks.BOUNDS,
                    sorter -> call.by(sorter, 2000));
        }
    }

    private static void fillAnswersHowManyThereAre() {
        Checks.sentence("Promise 2: \"Answers how many there are.\"");
        RunSorter sorter = new RunSorter();
        Checks.due("fill(8, 8, 2)", sorter.fill(8, 8, 2), 2);
        Checks.due("fill(8, 8, 3)", sorter.fill(8, 8, 3), 5);
        Checks.due("fill(8, 8, 0)", sorter.fill(8, 8, 0), 5);
        Checks.due("fill(8, 8, 1995)", sorter.fill(8, 8, 1995), 2000);
        Checks.due("fill(8, 8, 0) with 2000", sorter.fill(8, 8, 0), 2000);
    }

    private static void scatterTakes0To2000() {
        Checks.sentence("Promise 3: \"n 0 .. 2000\"");
        for (int n : new int[] {0, 1, 2, 1999, 2000}) {
            RunSorter sorter = new RunSorter();
            RowModel model = new RowModel();
            Checks.due("scatter(4, 9, " + n + ")", sorter.scatter(4, 9, n), model.scatter(4, 9, n));
            Checks.due("hash() of " + n, sorter.hash(), model.hash());
            Checks.due("clear() of " + n, sorter.clear(), n);
        }
    }

    private static void scatterRefusesOtherCounts() {
        Checks.sentence("Promise 3: \"n 0 .. 2000\"");
        refusesOtherCounts("scatter", (sorter, n) -> sorter.scatter(4, 9, n));
    }

    // The first seed behind MAX is 0xBC558D52: each count of bits takes the lowest of 0xBC55.
    private static void scatterTakes1To16Bits() {
        Checks.sentence("Promise 3: \"bits 1 .. 16\", \"the lowest bits (1 .. 16)\"");
        int[] want = {1, 1, 5, 5, 21, 21, 85, 85, 85, 85, 1109, 3157, 7253, 15445, 15445, 48213};
        for (int bits = 1; bits <= 16; bits++) {
            RunSorter sorter = new RunSorter();
            sorter.scatter(MAX, bits, 1);
            Checks.due("scatter(MAX, " + bits + ", 1)", sorter.get(0), want[bits - 1]);
            RunSorter many = new RunSorter();
            many.scatter(77, bits, 2000);
            many.sort(0, 0, 2000);
            Checks.due("numbers of " + bits + " bits below 0", many.upTo(0, 0, false), 0);
            Checks.due("numbers of " + bits + " bits that fit", many.upTo(0, (1 << bits) - 1, true), 2000);
            Checks.due("the highest bit of " + bits + " is used", many.get(1999) >= 1 << (bits - 1), true);
        }
    }

    private static void scatterRefusesOtherBits() {
        Checks.sentence("Promise 3: \"bits 1 .. 16\"");
        for (int bits : new int[] {MIN, MIN + 1, -31, -16, -1, 0, 17, 31, 32, 33, 48, MAX}) {
            for (int n : new int[] {0, 1, 2000}) {
                Checks.refused("scatter(1, " + bits + ", " + n + ") with 1", () -> Checks.filled(1), Checks.RANGE,
                        sorter -> sorter.scatter(1, bits, n));
            }
        }
    }

    private static void scatterWraps() {
        Checks.sentence("Promise 3: \"1664525 s + 1013904223 (wrapping)\"");
        for (int x : new int[] {MIN, MIN + 1, -65536, -1, 0, 1, 65535, 65536, MAX - 1, MAX}) {
            RunSorter sorter = new RunSorter();
            RowModel model = new RowModel();
            sorter.scatter(x, 16, 2000);
            model.scatter(x, 16, 2000);
            Checks.due("hash() of scatter(" + x + ", 16, 2000)", sorter.hash(), model.hash());
            Checks.due("get(1999) of scatter(" + x + ", 16, 2000)", sorter.get(1999), model.get(1999));
        }
    }

    // The seeds from 0 on are 1013904223 and 1196435762, whose upper halves are 15470 and 18256.
    private static void scatterStepsBeforeEachNumber() {
        Checks.sentence("Promise 3: \"(before each NUMBER, also the first)\"");
        RunSorter sorter = new RunSorter();
        sorter.scatter(0, 16, 2);
        Checks.due("scatter(0, 16, 2)", Checks.row(sorter), "15470:0 18256:1");
        sorter.scatter(1013904223, 16, 1);
        Checks.due("scatter(1013904223, 16, 1) behind it", Checks.row(sorter), "15470:0 18256:1 18256:2");
        sorter.scatter(0, 16, 1);
        Checks.due("scatter(0, 16, 1) begins with x again", Checks.row(sorter), "15470:0 18256:1 18256:2 15470:3");
    }

    // Seeds with the highest bit: behind MAX 0xBC558D52, behind MIN 0xBC6EF35F.
    private static void scatterShiftsWithoutSign() {
        Checks.sentence("Promise 3: \"of s >>> 16\"");
        RunSorter sorter = new RunSorter();
        sorter.scatter(MAX, 16, 1);
        sorter.scatter(MIN, 16, 1);
        Checks.due("row", Checks.row(sorter), "48213:0 48238:1");
    }

    private static void scatterIsLikewise() {
        Checks.sentence("Promise 3: \"Likewise\"");
        RunSorter sorter = Checks.holding(2, 1);
        sorter.sort(0, 0, 2);
        Checks.due("scatter(0, 16, 1) answers how many there are", sorter.scatter(0, 16, 1), 3);
        Checks.due("it comes behind the others, with its index", Checks.row(sorter), "1:1 2:0 15470:2");
        Checks.due("scatter(0, 16, 0)", sorter.scatter(0, 16, 0), 3);
        Checks.due("nothing more comes", Checks.row(sorter), "1:1 2:0 15470:2");
    }

    private static void scatterRefusesMoreThan2000() {
        Checks.sentence("Promise 3: \"Likewise\" \"more than 2000: IndexOutOfBoundsException\"");
        refusesMoreThan2000("scatter", (sorter, n) -> sorter.scatter(7, 16, n));
    }

    private static void clearOfAnEmptyRow() {
        Checks.sentence("Promise 10: \"Answers how many there were.\", an empty row");
        RunSorter sorter = new RunSorter();
        Checks.due("clear()", sorter.clear(), 0);
        Checks.due("clear() again", sorter.clear(), 0);
        Checks.due("hash()", sorter.hash(), 1);
        sorter.fill(1, 1, 1);
        Checks.due("clear() of one", sorter.clear(), 1);
        Checks.due("clear() of none again", sorter.clear(), 0);
    }

    private static void clearOfAFullRow() {
        Checks.sentence("Promise 10: \"Answers how many there were.\", a full row");
        RunSorter sorter = Checks.filled(2000);
        Checks.due("clear()", sorter.clear(), 2000);
        Checks.due("fill(3, 0, 2000)", sorter.fill(3, 0, 2000), 2000);
        Checks.due("clear() again", sorter.clear(), 2000);
        Checks.due("scatter(3, 1, 2000)", sorter.scatter(3, 1, 2000), 2000);
    }

    private static void clearLeavesNoNumbers() {
        Checks.sentence("Promise 10: \"No NUMBERS.\"");
        RunSorter sorter = Checks.holding(5, 4, 3);
        sorter.sort(0, 0, 3);
        sorter.clear();
        Checks.due("hash()", sorter.hash(), 1);
        Checks.due("size", Checks.size(sorter), 0);
        Checks.due("upTo(0, MAX, true)", sorter.upTo(0, MAX, true), 0);
        Checks.due("sort(0, 0, 0)", sorter.sort(0, 0, 0), 0);
        Checks.refused("get(0)", RunSorterRowBoundariesTest::cleared, Checks.BOUNDS, other -> other.get(0));
        Checks.refused("tag(0)", RunSorterRowBoundariesTest::cleared, Checks.BOUNDS, other -> other.tag(0));
        Checks.refused("set(0, 1)", RunSorterRowBoundariesTest::cleared, Checks.BOUNDS, other -> other.set(0, 1));
        Checks.refused("sort(0, 0, 1)", RunSorterRowBoundariesTest::cleared, Checks.RANGE, other -> other.sort(0, 0, 1));
        Checks.refused("turn(1, 1)", RunSorterRowBoundariesTest::cleared, Checks.RANGE, other -> other.turn(1, 1));
        sorter.fill(8, 0, 2);
        Checks.due("what comes then begins at 0", Checks.row(sorter), "8:0 8:1");
        Checks.refused("get(2)", RunSorterRowBoundariesTest::cleared, Checks.BOUNDS, other -> other.get(2));
    }

    private static RunSorter cleared() {
        RunSorter sorter = Checks.holding(5, 4, 3);
        sorter.clear();
        return sorter;
    }

    private static void hashOfAnEmptyRow() {
        Checks.sentence("Promise 11: \"From h 1 on\", an empty row");
        Checks.due("hash() of a new row", new RunSorter().hash(), 1);
        Checks.due("hash() of a cleared row", cleared().hash(), 1);
        Checks.due("hash() of 0", Checks.holding(0).hash(), 961);
    }

    private static void hashWraps() {
        Checks.sentence("Promise 11: \"it wraps\"");
        Checks.due("hash() of MAX", Checks.holding(MAX).hash(), -2147482718);
        Checks.due("hash() of MIN", Checks.holding(MIN).hash(), -2147482687);
        RunSorter sorter = new RunSorter();
        RowModel model = new RowModel();
        sorter.fill(MAX, -1, 2000);
        model.fill(MAX, -1, 2000);
        Checks.due("hash() of 2000", sorter.hash(), model.hash());
        Checks.due("hash() again", sorter.hash(), model.hash());
    }

    private static void hashTakesTheNumberFirst() {
        Checks.sentence("Promise 11: \"31 h + NUMBER and 31 h + TAG, one after the other\"");
        RunSorter sorter = Checks.holding(2, -1);
        Checks.due("hash() of 2:0 -1:1", sorter.hash(), ((31 + 2) * 31 * 31 - 1) * 31 + 1);
        sorter.turn(0, 2);
        Checks.due("hash() of -1:1 2:0", sorter.hash(), (((31 - 1) * 31 + 1) * 31 + 2) * 31);
        sorter.set(0, 3);
        Checks.due("hash() of 3:1 2:0", sorter.hash(), (((31 + 3) * 31 + 1) * 31 + 2) * 31);
    }
}
