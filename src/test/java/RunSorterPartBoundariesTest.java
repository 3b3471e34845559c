import java.util.function.IntSupplier;

/** The boundary cases that promises 4, 8 and 9 name, sentence by sentence: parts of the row, and the orders. */
public final class RunSorterPartBoundariesTest {
    private static final int MIN = Checks.MIN;
    private static final int MAX = Checks.MAX;
    private static final int[] NO_ORDERS = {MIN, MIN + 3, -4, -1, 4, 5, 16, MAX};
    private static final int[] SIZES = {0, 1, 2, 3, 4, 5, 8};

    private interface PartCall {
        int over(RunSorter sorter, int from, int to);
    }

    public static void main(String[] args) {
        sortTakesFourOrders();
        sortRefusesOtherOrders();
        sortTakesEveryPart();
        sortRefusesOtherParts();
        sortOfNothingAndOfOne();
        sortOfAFullRow();
        sortLeavesTheRest();
        sortKeepsThoseAlike();
        sortAnswersToMinusFrom();
        turnTakesEveryPart();
        turnRefusesOtherParts();
        turnOfNothingAndOfOne();
        turnOfAFullRow();
        turnAnswersHowMany();
        upToTakesFourOrders();
        upToRefusesOtherOrders();
        upToOfAnEmptyRow();
        upToBeyondOrBefore();
        upToAsFarAsAllDo();
        upToWhetherInOrderOrNot();
        Checks.end();
    }

    private static void sortTakesFourOrders() {
        Checks.sentence("Promise 4: \"order 0 .. 3\"");
        sorted(0, "-1:1 2:3 17:0 33:2");
        sorted(1, "33:2 17:0 2:3 -1:1");
        sorted(2, "17:0 33:2 2:3 -1:1");
        sorted(3, "2:3 17:0 33:2 -1:1");
    }

    private static void sorted(int order, String want) {
        RunSorter sorter = Checks.holding(17, -1, 33, 2);
        sorter.sort(order, 0, 4);
        Checks.due("sort(" + order + ", 0, 4)", Checks.row(sorter), want);
    }

    private static void sortRefusesOtherOrders() {
        Checks.sentence("Promise 4: \"order 0 .. 3 .. else IllegalArgumentException\"");
        for (int order : NO_ORDERS) {
            Checks.refused("sort(" + order + ", 0, 5) with 5", () -> Checks.filled(5), Checks.RANGE,
                    sorter -> sorter.sort(order, 0, 5));
            Checks.refused("sort(" + order + ", 2, 2) with 5", () -> Checks.filled(5), Checks.RANGE,
                    sorter -> sorter.sort(order, 2, 2));
            Checks.refused("sort(" + order + ", 0, 0) with 0", RunSorter::new, Checks.RANGE,
                    sorter -> sorter.sort(order, 0, 0));
        }
    }

    private static void sortTakesEveryPart() {
        Checks.sentence("Promise 4: \"0 .. from .. to .. size\"");
        for (int size : SIZES) {
            for (int from = 0; from <= size; from++) {
                for (int to = from; to <= size; to++) {
                    for (int order = 0; order < 4; order++) {
                        sortsLikeTheModel(order, from, to, size);
                    }
                }
            }
        }
    }

    private static void sortsLikeTheModel(int order, int from, int to, int size) {
        RunSorter sorter = Checks.filled(size);
        RowModel model = model(size);
        String what = "sort(" + order + ", " + from + ", " + to + ") with " + size;
        Checks.due(what, Checks.outcome(() -> sorter.sort(order, from, to)), model.sort(order, from, to));
        Checks.due("the row after " + what, Checks.row(sorter), row(model));
    }

    private static RowModel model(int size) {
        RowModel model = new RowModel();
        model.fill(-1, 1234567891, size);
        return model;
    }

    private static String row(RowModel model) {
        StringBuilder text = new StringBuilder();
        for (int i = 0; i < model.size(); i++) {
            text.append(i == 0 ? "" : " ").append(model.get(i)).append(':').append(model.tag(i));
        }
        return text.toString();
    }

    private static void sortRefusesOtherParts() {
        Checks.sentence("Promise 4: \"0 .. from .. to .. size: else IllegalArgumentException\"");
        for (int order = 0; order < 4; order++) {
            int same = order;
            refusesOtherParts("sort by order " + order, (sorter, from, to) -> sorter.sort(same, from, to));
        }
    }

    private static void refusesOtherParts(String name, PartCall call) {
        for (int size : new int[] {0, 1, 3, 2000}) {
            refusesPart(name, call, -1, size, size);
            refusesPart(name, call, -1, -1, size);
            refusesPart(name, call, -1, 0, size);
            refusesPart(name, call, 0, -1, size);
            refusesPart(name, call, 0, size + 1, size);
            refusesPart(name, call, size, size + 1, size);
            refusesPart(name, call, size + 1, size + 1, size);
            refusesPart(name, call, size + 1, size, size);
            refusesPart(name, call, size + 1, 0, size);
            refusesPart(name, call, 1, 0, size);
            refusesPart(name, call, MIN, size, size);
            refusesPart(name, call, 0, MAX, size);
            refusesPart(name, call, MIN, MIN, size);
            refusesPart(name, call, MAX, MAX, size);
            refusesPart(name, call, MIN, MAX, size);
            refusesPart(name, call, MAX, MIN, size);
            refusesPart(name, call, 0, MIN, size);
            refusesPart(name, call, MAX, 0, size);
        }
        refusesPart(name, call, 2, 1, 3);
        refusesPart(name, call, 3, 2, 3);
        refusesPart(name, call, 2000, 1999, 2000);
    }

    private static void refusesPart(String name, PartCall call, int from, int to, int size) {
        Checks.refused(name + " from " + from + " to " + to + " with " + size, () -> Checks.filled(size), Checks.RANGE,
                sorter -> call.over(sorter, from, to));
    }

    private static void sortOfNothingAndOfOne() {
        Checks.sentence("Promise 4: \"from .. to - 1\", none and one");
        for (int order = 0; order < 4; order++) {
            int same = order;
            leavesTheRow("sort by order " + order, (sorter, from, to) -> sorter.sort(same, from, to));
        }
    }

    private static void leavesTheRow(String name, PartCall call) {
        for (int size : new int[] {0, 1, 5, 2000}) {
            RunSorter sorter = Checks.filled(size);
            int hash = sorter.hash();
            Checks.due(name + ", none at 0 of " + size, call.over(sorter, 0, 0), 0);
            Checks.due(name + ", none at the end of " + size, call.over(sorter, size, size), 0);
            Checks.due(name + ", none in the middle of " + size, call.over(sorter, size / 2, size / 2), 0);
            if (size > 0) {
                Checks.due(name + ", the first of " + size, call.over(sorter, 0, 1), 1);
                Checks.due(name + ", the last of " + size, call.over(sorter, size - 1, size), 1);
            }
            Checks.due(name + ", hash of " + size, sorter.hash(), hash);
        }
    }

    // Rows of one run, of as many runs as numbers, and of runs of one length but for the last.
    private static void sortOfAFullRow() {
        Checks.sentence("Promise 4: \"Those with indices from .. to - 1 are in that ORDER\", a full row");
        for (int order = 0; order < 4; order++) {
            for (int length : new int[] {1, 2, 3, 7, 999, 1000, 1001, 1999, 2000}) {
                fullRow(order, length, 1);
                fullRow(order, length, -1);
            }
        }
    }

    private static void fullRow(int order, int length, int step) {
        RunSorter sorter = new RunSorter();
        RowModel model = new RowModel();
        for (int start = 0, run = 0; start < 2000 && run < 250; start += length, run++) {
            int n = run == 249 ? 2000 - start : Math.min(length, 2000 - start);
            sorter.fill(-run, step, n);
            model.fill(-run, step, n);
        }
        int size = model.size();
        String what = "sort(" + order + ", 0, " + size + ") of runs of " + length + " by " + step;
        Checks.due(what, sorter.sort(order, 0, size), model.sort(order, 0, size));
        Checks.due("hash() after " + what, sorter.hash(), model.hash());
    }

    private static void sortLeavesTheRest() {
        Checks.sentence("Promise 4: \"Those with indices from .. to - 1\", not the others");
        RunSorter sorter = Checks.holding(9, 8, 7, 6, 5);
        sorter.sort(0, 1, 4);
        Checks.due("sort(0, 1, 4)", Checks.row(sorter), "9:0 6:3 7:2 8:1 5:4");
        sorter.sort(0, 0, 2);
        Checks.due("sort(0, 0, 2)", Checks.row(sorter), "6:3 9:0 7:2 8:1 5:4");
        sorter.sort(0, 3, 5);
        Checks.due("sort(0, 3, 5)", Checks.row(sorter), "6:3 9:0 7:2 5:4 8:1");
        RunSorter falling = new RunSorter();
        falling.fill(2000, -1, 2000);
        falling.sort(0, 1, 1999);
        Checks.due("the first", falling.get(0), 2000);
        Checks.due("the second", falling.get(1), 2);
        Checks.due("the last but one", falling.get(1998), 1999);
        Checks.due("the last", falling.get(1999), 1);
    }

    private static void sortKeepsThoseAlike() {
        Checks.sentence("Promise 4: \"those ALIKE stay as they were to each other\"");
        alike(0, "1:1 1:3 1:5 2:0 2:2 2:4");
        alike(1, "2:0 2:2 2:4 1:1 1:3 1:5");
        alike(2, "1:1 1:3 1:5 2:0 2:2 2:4");
        alike(3, "1:1 1:3 1:5 2:0 2:2 2:4");
        RunSorter turned = Checks.holding(2, 1, 2, 1, 2, 1);
        turned.turn(0, 6);
        turned.sort(0, 0, 6);
        Checks.due("as they stood, not by their tags", Checks.row(turned), "1:5 1:3 1:1 2:4 2:2 2:0");
        RunSorter bits = Checks.holding(33, 48, 17, 0, 1, -16);
        bits.sort(2, 0, 6);
        Checks.due("other numbers, alike in order 2", Checks.row(bits), "48:1 0:3 -16:5 33:0 17:2 1:4");
        for (int order = 0; order < 4; order++) {
            RunSorter same = new RunSorter();
            same.fill(-3, 0, 2000);
            int hash = same.hash();
            same.sort(order, 0, 2000);
            Checks.due("2000 of the same in order " + order, same.hash(), hash);
            RunSorter few = new RunSorter();
            RowModel model = new RowModel();
            few.scatter(order, 1, 2000);
            model.scatter(order, 1, 2000);
            few.sort(order, 0, 2000);
            model.sort(order, 0, 2000);
            Checks.due("2000 of two kinds in order " + order, few.hash(), model.hash());
        }
    }

    private static void alike(int order, String want) {
        RunSorter sorter = Checks.holding(2, 1, 2, 1, 2, 1);
        sorter.sort(order, 0, 6);
        Checks.due("sort(" + order + ", 0, 6)", Checks.row(sorter), want);
    }

    private static void sortAnswersToMinusFrom() {
        Checks.sentence("Promise 4: \"Answers to - from.\"");
        answersToMinusFrom("sort", (sorter, from, to) -> sorter.sort(1, from, to));
    }

    private static void answersToMinusFrom(String name, PartCall call) {
        RunSorter sorter = Checks.filled(2000);
        for (int[] part : new int[][] {{0, 2000}, {0, 0}, {2000, 2000}, {1, 2000}, {0, 1999}, {7, 10}, {999, 1000}}) {
            Checks.due(name + " from " + part[0] + " to " + part[1], call.over(sorter, part[0], part[1]), part[1] - part[0]);
        }
    }

    private static void turnTakesEveryPart() {
        Checks.sentence("Promise 8: \"from .. to - 1 (as for sort) are turned round\"");
        for (int size : SIZES) {
            for (int from = 0; from <= size; from++) {
                for (int to = from; to <= size; to++) {
                    turnsLikeTheModel(from, to, size);
                }
            }
        }
    }

    private static void turnsLikeTheModel(int from, int to, int size) {
        RunSorter sorter = Checks.filled(size);
        RowModel model = model(size);
        IntSupplier call = () -> sorter.turn(from, to);
        String what = "turn(" + from + ", " + to + ") with " + size;
        Checks.due(what, Checks.outcome(call), model.turn(from, to));
        Checks.due("the row after " + what, Checks.row(sorter), row(model));
    }

    private static void turnRefusesOtherParts() {
        Checks.sentence("Promise 8: \"(as for sort)\" \"else IllegalArgumentException\"");
        refusesOtherParts("turn", RunSorter::turn);
    }

    private static void turnOfNothingAndOfOne() {
        Checks.sentence("Promise 8: \"from .. to - 1\", none and one");
        leavesTheRow("turn", RunSorter::turn);
    }

    private static void turnOfAFullRow() {
        Checks.sentence("Promise 8: \"are turned round\", a full row");
        RunSorter sorter = Checks.filled(2000);
        RowModel model = model(2000);
        int before = sorter.hash();
        for (int[] part : new int[][] {{0, 2000}, {1, 2000}, {0, 1999}, {1, 1999}}) {
            sorter.turn(part[0], part[1]);
            model.turn(part[0], part[1]);
            Checks.due("hash() after turn(" + part[0] + ", " + part[1] + ")", sorter.hash(), model.hash());
        }
        RunSorter twice = Checks.filled(2000);
        twice.turn(0, 2000);
        twice.turn(0, 2000);
        Checks.due("hash() of what is turned twice", twice.hash(), before);
    }

    private static void turnAnswersHowMany() {
        Checks.sentence("Promise 8: \"Answers how many.\"");
        answersToMinusFrom("turn", RunSorter::turn);
    }

    private static void upToTakesFourOrders() {
        Checks.sentence("Promise 9: \"order 0 .. 3\"");
        upTo(0, Checks.holding(MIN, -1, 16, MAX), 16, 2, 3);
        upTo(1, Checks.holding(MAX, 16, -1, MIN), -1, 2, 3);
        upTo(2, Checks.holding(MIN, 17, -14, MAX), 2, 2, 3);
        upTo(3, Checks.holding(0, MAX, MIN, -1), MIN, 2, 3);
    }

    private static void upTo(int order, RunSorter sorter, int x, int before, int notBehind) {
        String row = Checks.row(sorter);
        Checks.due("upTo(" + order + ", " + x + ", false) of " + row, sorter.upTo(order, x, false), before);
        Checks.due("upTo(" + order + ", " + x + ", true) of " + row, sorter.upTo(order, x, true), notBehind);
        Checks.due("the row after upTo(" + order + ", " + x + ", ..)", Checks.row(sorter), row);
    }

    private static void upToRefusesOtherOrders() {
        Checks.sentence("Promise 9: \"order 0 .. 3\", IllegalArgumentException");
        for (int order : NO_ORDERS) {
            for (int size : new int[] {0, 1, 5, 2000}) {
                Checks.refused("upTo(" + order + ", 0, true) with " + size, () -> Checks.filled(size), Checks.RANGE,
                        sorter -> sorter.upTo(order, 0, true));
                Checks.refused("upTo(" + order + ", 0, false) with " + size, () -> Checks.filled(size), Checks.RANGE,
                        sorter -> sorter.upTo(order, 0, false));
            }
        }
    }

    private static void upToOfAnEmptyRow() {
        Checks.sentence("Promise 9: \"How many\", an empty row");
        for (int order = 0; order < 4; order++) {
            for (int x : new int[] {MIN, -1, 0, 15, MAX}) {
                upTo(order, new RunSorter(), x, 0, 0);
            }
        }
    }

    // What comes first and last in each order, where before and not behind differ the most.
    private static void upToBeyondOrBefore() {
        Checks.sentence("Promise 9: \"come not behind x (beyond), or before it\"");
        upTo(0, Checks.holding(MIN, MIN, MAX, MAX), MIN, 0, 2);
        upTo(0, Checks.holding(MIN, MIN, MAX, MAX), MAX, 2, 4);
        upTo(1, Checks.holding(MAX, MAX, MIN, MIN), MAX, 0, 2);
        upTo(1, Checks.holding(MAX, MAX, MIN, MIN), MIN, 2, 4);
        upTo(2, Checks.holding(0, 16, 15, -1), 32, 0, 2);
        upTo(2, Checks.holding(0, 16, 15, -1), 31, 2, 4);
        upTo(3, Checks.holding(0, 0, -1, -1), 0, 0, 2);
        upTo(3, Checks.holding(0, 0, -1, -1), -1, 2, 4);
        upTo(0, Checks.holding(1, 3, 5), 4, 2, 2);
        upTo(1, Checks.holding(5, 3, 1), 4, 1, 1);
        upTo(2, Checks.holding(1, 3, 5), 20, 2, 2);
        upTo(3, Checks.holding(1, 3, -5), 4, 2, 2);
    }

    private static void upToAsFarAsAllDo() {
        Checks.sentence("Promise 9: \"from the first on .. as far as all of them do\"");
        for (int order = 0; order < 4; order++) {
            RunSorter same = new RunSorter();
            same.fill(9, 0, 2000);
            Checks.due("upTo(" + order + ", 9, true), all of them", same.upTo(order, 9, true), 2000);
            Checks.due("upTo(" + order + ", 9, false), none of them", same.upTo(order, 9, false), 0);
        }
        RunSorter lastIsBehind = new RunSorter();
        lastIsBehind.fill(4, 0, 1999);
        lastIsBehind.fill(5, 0, 1);
        Checks.due("upTo(0, 4, true), all but the last", lastIsBehind.upTo(0, 4, true), 1999);
        Checks.due("upTo(0, 5, false), all but the last", lastIsBehind.upTo(0, 5, false), 1999);
        Checks.due("upTo(0, 5, true), all of them", lastIsBehind.upTo(0, 5, true), 2000);
        upTo(0, Checks.holding(4), 4, 0, 1);
        upTo(0, Checks.holding(4), 3, 0, 0);
        upTo(0, Checks.holding(4), 5, 1, 1);
    }

    // A halving look would land behind the first one that does not come before x.
    private static void upToWhetherInOrderOrNot() {
        Checks.sentence("Promise 9: \"(Up to the first one that does not, whether THE ROW is in that ORDER or not.)\"");
        upTo(0, Checks.holding(9, 1, 2, 3, 4), 5, 0, 0);
        upTo(0, Checks.holding(1, 9, 2, 3, 4), 5, 1, 1);
        upTo(0, Checks.holding(3, 1, 2, 5, 4, 9, 1), 5, 3, 5);
        upTo(1, Checks.holding(5, 9, 6, 1, 9, 9), 5, 0, 3);
        upTo(2, Checks.holding(2, 16, 3, 17, 0), 3, 2, 5);
        upTo(3, Checks.holding(7, 0, -1, 3, 3), 7, 0, 2);
        for (int at : new int[] {0, 1, 500, 999, 1000, 1001, 1998, 1999}) {
            RunSorter sorter = new RunSorter();
            sorter.fill(1, 0, 2000);
            sorter.set(at, 2);
            Checks.due("upTo(0, 1, true) with a 2 at " + at, sorter.upTo(0, 1, true), at);
            Checks.due("upTo(0, 2, false) with a 2 at " + at, sorter.upTo(0, 2, false), at);
            Checks.due("upTo(0, 2, true) with a 2 at " + at, sorter.upTo(0, 2, true), 2000);
        }
    }
}
