/** Every promise of the document by itself, by ordinary inputs. The Boundaries tests look at the edges and refusals. */
public final class RunSorterPromisesTest {
    private static final int MIN = Checks.MIN;
    private static final int MAX = Checks.MAX;

    public static void main(String[] args) {
        promise1NewObject();
        promise2Fill();
        promise3Scatter();
        promise4SortOrders();
        promise4SortKeepsAlike();
        promise4SortParts();
        promise4SortLongRows();
        promise5Get();
        promise6Tag();
        promise7Set();
        promise8Turn();
        promise9UpToOrders();
        promise9UpToUnsorted();
        promise10Clear();
        promise11Hash();
        Checks.end();
    }

    private static void promise1NewObject() {
        Checks.due("1: size", Checks.size(new RunSorter()), 0);
        Checks.due("1: hash", new RunSorter().hash(), 1);
        Checks.due("1: clear", new RunSorter().clear(), 0);
        Checks.due("1: get(0)", Checks.outcome(() -> new RunSorter().get(0)), Checks.BOUNDS);
        RunSorter one = Checks.holding(1, 2, 3);
        Checks.due("1: another object's row", Checks.row(new RunSorter()), "");
        Checks.due("1: the first object's row", Checks.row(one), "1:0 2:1 3:2");
    }

    private static void promise2Fill() {
        RunSorter sorter = new RunSorter();
        Checks.due("2: fill(5, 3, 3)", sorter.fill(5, 3, 3), 3);
        Checks.due("2: fill(9, 1, 0)", sorter.fill(9, 1, 0), 3);
        Checks.due("2: fill(1, -4, 2)", sorter.fill(1, -4, 2), 5);
        Checks.due("2: fill(7, 0, 2)", sorter.fill(7, 0, 2), 7);
        Checks.due("2: row", Checks.row(sorter), "5:0 8:1 11:2 1:3 -3:4 7:5 7:6");
        RunSorter wrapping = new RunSorter();
        wrapping.fill(MAX - 1, 1, 3);
        wrapping.fill(MIN, -1, 2);
        wrapping.fill(0, MIN, 3);
        wrapping.fill(3, MAX, 4);
        Checks.due("2: wrapping row", Checks.row(wrapping),
                (MAX - 1) + ":0 " + MAX + ":1 " + MIN + ":2 " + MIN + ":3 " + MAX + ":4 0:5 " + MIN + ":6 0:7 3:8 "
                        + (MIN + 2) + ":9 1:10 " + MIN + ":11");
        RunSorter moved = Checks.holding(3, 2, 1);
        moved.sort(0, 0, 3);
        moved.fill(8, 1, 1);
        Checks.due("2: tags behind a sorted row", Checks.row(moved), "1:2 2:1 3:0 8:3");
    }

    // The seeds from 0 on are 1013904223 and 1196435762, whose upper halves are 0x3C6E and 0x4750.
    private static void promise3Scatter() {
        RunSorter sorter = new RunSorter();
        Checks.due("3: scatter(0, 16, 2)", sorter.scatter(0, 16, 2), 2);
        Checks.due("3: scatter(0, 9, 0)", sorter.scatter(0, 9, 0), 2);
        Checks.due("3: scatter(0, 4, 2)", sorter.scatter(0, 4, 2), 4);
        Checks.due("3: scatter(0, 1, 2)", sorter.scatter(0, 1, 2), 6);
        Checks.due("3: scatter(1013904223, 8, 1)", sorter.scatter(1013904223, 8, 1), 7);
        Checks.due("3: row", Checks.row(sorter), "15470:0 18256:1 14:2 0:3 0:4 0:5 80:6");
        RunSorter high = new RunSorter();
        high.scatter(-1, 16, 3);
        high.scatter(-1, 15, 1);
        long seed = -1;
        StringBuilder want = new StringBuilder();
        for (int i = 0; i < 3; i++) {
            seed = (1664525L * seed + 1013904223L) & 0xFFFFFFFFL;
            want.append(seed >> 16).append(':').append(i).append(' ');
        }
        long first = ((1664525L * -1L + 1013904223L) & 0xFFFFFFFFL) >> 16;
        want.append(first % 32768).append(":3");
        Checks.due("3: row of scatter(-1, ..)", Checks.row(high), want.toString());
    }

    private static void promise4SortOrders() {
        int[] numbers = {7, MIN, 16, -1, MAX, 0, 3};
        sorted("4: rising", 0, numbers, MIN + ":1 -1:3 0:5 3:6 7:0 16:2 " + MAX + ":4");
        sorted("4: falling", 1, numbers, MAX + ":4 16:2 7:0 3:6 0:5 -1:3 " + MIN + ":1");
        sorted("4: lowest bits", 2, numbers, MIN + ":1 16:2 0:5 3:6 7:0 -1:3 " + MAX + ":4");
        sorted("4: all lowest bits", 2, new int[] {15, 8, 23, 16, 7}, "16:3 23:2 7:4 8:1 15:0");
        sorted("4: without sign", 3, numbers, "0:5 3:6 7:0 16:2 " + MAX + ":4 " + MIN + ":1 -1:3");
    }

    private static void sorted(String what, int order, int[] numbers, String want) {
        RunSorter sorter = Checks.holding(numbers);
        Checks.due(what, sorter.sort(order, 0, numbers.length), numbers.length);
        Checks.due(what + ", the row", Checks.row(sorter), want);
    }

    private static void promise4SortKeepsAlike() {
        int[] numbers = {2, 1, 2, 1, 2, 1};
        sorted("4: alike rising", 0, numbers, "1:1 1:3 1:5 2:0 2:2 2:4");
        sorted("4: alike falling", 1, numbers, "2:0 2:2 2:4 1:1 1:3 1:5");
        sorted("4: alike without sign", 3, numbers, "1:1 1:3 1:5 2:0 2:2 2:4");
        sorted("4: alike by lowest bits", 2, new int[] {33, 48, 17, 0, 1, -16}, "48:1 0:3 -16:5 33:0 17:2 1:4");
        sorted("4: all alike", 1, new int[] {5, 5, 5}, "5:0 5:1 5:2");
    }

    private static void promise4SortParts() {
        RunSorter sorter = Checks.holding(9, 8, 7, 6, 5, 4);
        Checks.due("4: sort(0, 1, 4)", sorter.sort(0, 1, 4), 3);
        Checks.due("4: sorted middle", Checks.row(sorter), "9:0 6:3 7:2 8:1 5:4 4:5");
        Checks.due("4: sort(0, 3, 3)", sorter.sort(0, 3, 3), 0);
        Checks.due("4: sort(0, 2, 3)", sorter.sort(0, 2, 3), 1);
        Checks.due("4: sort(0, 6, 6)", sorter.sort(0, 6, 6), 0);
        Checks.due("4: nothing sorted", Checks.row(sorter), "9:0 6:3 7:2 8:1 5:4 4:5");
        Checks.due("4: sort(0, 3, 6)", sorter.sort(0, 3, 6), 3);
        Checks.due("4: sorted end", Checks.row(sorter), "9:0 6:3 7:2 4:5 5:4 8:1");
        Checks.due("4: sort(0, 0, 2)", sorter.sort(0, 0, 2), 2);
        Checks.due("4: sorted start", Checks.row(sorter), "6:3 9:0 7:2 4:5 5:4 8:1");
        Checks.due("4: sort(0, 0, 0) of nothing", new RunSorter().sort(0, 0, 0), 0);
    }

    // A falling row has as many runs as numbers, the most that a sort can meet.
    private static void promise4SortLongRows() {
        RunSorter sorter = new RunSorter();
        sorter.fill(2000, -1, 2000);
        Checks.due("4: sort(0, 0, 2000)", sorter.sort(0, 0, 2000), 2000);
        RunSorter want = new RunSorter();
        want.fill(2000, -1, 2000);
        want.turn(0, 2000);
        Checks.due("4: sorted falling row", sorter.hash(), want.hash());
        Checks.due("4: first tag", sorter.tag(0), 1999);
        Checks.due("4: first number", sorter.get(0), 1);
        int before = sorter.hash();
        Checks.due("4: sort of what is sorted", sorter.sort(0, 0, 2000), 2000);
        Checks.due("4: sorted as it was", sorter.hash(), before);
    }

    private static void promise5Get() {
        RunSorter sorter = Checks.holding(10, MIN, 30);
        Checks.due("5: get(0)", sorter.get(0), 10);
        Checks.due("5: get(1)", sorter.get(1), MIN);
        Checks.due("5: get(2)", sorter.get(2), 30);
    }

    private static void promise6Tag() {
        RunSorter sorter = Checks.holding(30, 20, 10);
        Checks.due("6: tag(0)", sorter.tag(0), 0);
        sorter.sort(0, 0, 3);
        Checks.due("6: tag(0) when sorted", sorter.tag(0), 2);
        Checks.due("6: tag(1) when sorted", sorter.tag(1), 1);
        Checks.due("6: tag(2) when sorted", sorter.tag(2), 0);
    }

    private static void promise7Set() {
        RunSorter sorter = Checks.holding(30, 20, 10);
        sorter.sort(0, 0, 3);
        Checks.due("7: set(0, -5)", sorter.set(0, -5), 10);
        Checks.due("7: set(0, MAX)", sorter.set(0, MAX), -5);
        Checks.due("7: set(2, 1)", sorter.set(2, 1), 30);
        Checks.due("7: row", Checks.row(sorter), MAX + ":2 20:1 1:0");
    }

    private static void promise8Turn() {
        RunSorter sorter = Checks.holding(1, 2, 3, 4, 5);
        Checks.due("8: turn(0, 5)", sorter.turn(0, 5), 5);
        Checks.due("8: turned whole", Checks.row(sorter), "5:4 4:3 3:2 2:1 1:0");
        Checks.due("8: turn(1, 5)", sorter.turn(1, 5), 4);
        Checks.due("8: turned part", Checks.row(sorter), "5:4 1:0 2:1 3:2 4:3");
        Checks.due("8: turn(0, 2)", sorter.turn(0, 2), 2);
        Checks.due("8: turned two", Checks.row(sorter), "1:0 5:4 2:1 3:2 4:3");
        Checks.due("8: turn(2, 3)", sorter.turn(2, 3), 1);
        Checks.due("8: turn(5, 5)", sorter.turn(5, 5), 0);
        Checks.due("8: turn(0, 0)", sorter.turn(0, 0), 0);
        Checks.due("8: nothing turned", Checks.row(sorter), "1:0 5:4 2:1 3:2 4:3");
        Checks.due("8: turn(0, 0) of nothing", new RunSorter().turn(0, 0), 0);
    }

    private static void promise9UpToOrders() {
        upTo("9: rising", 0, Checks.holding(MIN, -1, 4, 4, 9), 4, 2, 4);
        upTo("9: rising, MIN", 0, Checks.holding(MIN, -1, 4, 4, 9), MIN, 0, 1);
        upTo("9: rising, behind all", 0, Checks.holding(MIN, -1, 4, 4, 9), MAX, 5, 5);
        upTo("9: falling", 1, Checks.holding(9, 4, 4, -1, MIN), 4, 1, 3);
        upTo("9: falling, before all", 1, Checks.holding(9, 4, 4, -1, MIN), 10, 0, 0);
        upTo("9: falling, MIN", 1, Checks.holding(9, 4, 4, -1, MIN), MIN, 4, 5);
        upTo("9: lowest bits", 2, Checks.holding(16, 33, -15, 18, -1), 1, 1, 3);
        upTo("9: lowest bits of x", 2, Checks.holding(16, 33, -15, 18, -1), -14, 3, 4);
        upTo("9: all lowest bits", 2, Checks.holding(0, 7, 8, 15), 24, 2, 3);
        upTo("9: without sign", 3, Checks.holding(0, MAX, MIN, MIN, -1), MIN, 2, 4);
        upTo("9: without sign, -1", 3, Checks.holding(0, MAX, MIN, MIN, -1), -1, 4, 5);
        upTo("9: nothing", 0, new RunSorter(), 0, 0, 0);
    }

    private static void upTo(String what, int order, RunSorter sorter, int x, int before, int notBehind) {
        int hash = sorter.hash();
        Checks.due(what + ", before", sorter.upTo(order, x, false), before);
        Checks.due(what + ", not behind", sorter.upTo(order, x, true), notBehind);
        Checks.due(what + ", hash", sorter.hash(), hash);
    }

    private static void promise9UpToUnsorted() {
        upTo("9: the first is behind", 0, Checks.holding(9, 1, 2, 3, 4, 5, 6), 5, 0, 0);
        upTo("9: one between is behind", 0, Checks.holding(1, 9, 2, 3, 4, 5, 6), 5, 1, 1);
        upTo("9: not sorted before it", 0, Checks.holding(3, 1, 2, 5, 4, 9, 1), 5, 3, 5);
        upTo("9: falling", 1, Checks.holding(5, 9, 6, 1, 9, 9), 5, 0, 3);
    }

    private static void promise10Clear() {
        RunSorter sorter = Checks.holding(3, 2, 1);
        Checks.due("10: clear", sorter.clear(), 3);
        Checks.due("10: hash", sorter.hash(), 1);
        Checks.due("10: get(0)", Checks.outcome(() -> sorter.get(0)), Checks.BOUNDS);
        Checks.due("10: sort(0, 0, 1)", Checks.outcome(() -> sorter.sort(0, 0, 1)), Checks.RANGE);
        Checks.due("10: clear again", sorter.clear(), 0);
        sorter.fill(8, -1, 2);
        Checks.due("10: tags begin again", Checks.row(sorter), "8:0 7:1");
        sorter.clear();
        Checks.due("10: fill 2000", sorter.fill(0, 1, 2000), 2000);
        Checks.due("10: clear 2000", sorter.clear(), 2000);
        Checks.due("10: scatter 2000", sorter.scatter(0, 1, 2000), 2000);
    }

    private static void promise11Hash() {
        Checks.due("11: nothing", new RunSorter().hash(), 1);
        Checks.due("11: 5", Checks.holding(5).hash(), 31 * (31 + 5));
        Checks.due("11: 5, -2", Checks.holding(5, -2).hash(), 31 * (31 * (31 * (31 + 5)) - 2) + 1);
        RunSorter turned = Checks.holding(5, -2);
        turned.turn(0, 2);
        Checks.due("11: -2, 5", turned.hash(), 31 * (31 * (31 * (31 - 2) + 1) + 5));
        Checks.due("11: it wraps", Checks.holding(MAX, MAX).hash(), (int) ((((31L + MAX) * 31) * 31 + MAX) * 31 + 1));
    }
}
