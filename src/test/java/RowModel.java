import java.util.ArrayList;
import java.util.Collections;
import java.util.Comparator;
import java.util.List;

/** What the document promises, told again by the Java library's lists, to hold RunSorter against. */
final class RowModel {
    private record Item(int number, int tag) {
    }

    private final List<Item> items = new ArrayList<>();

    int size() {
        return items.size();
    }

    int fill(int x, int step, int n) {
        require(n >= 0 && n <= 2000);
        requireRoom(n);
        int number = x;
        for (int i = 0; i < n; i++, number += step) {
            items.add(new Item(number, items.size()));
        }
        return items.size();
    }

    int scatter(int x, int bits, int n) {
        require(n >= 0 && n <= 2000 && bits >= 1 && bits <= 16);
        requireRoom(n);
        long seed = x;
        for (int i = 0; i < n; i++) {
            seed = (1664525L * seed + 1013904223L) & 0xFFFFFFFFL;
            items.add(new Item((int) ((seed / 65536) % (1L << bits)), items.size()));
        }
        return items.size();
    }

    int sort(int order, int from, int to) {
        require(order >= 0 && order <= 3);
        part(from, to).sort((a, b) -> compare(order, a.number(), b.number()));
        return to - from;
    }

    int get(int i) {
        return items.get(i).number();
    }

    int tag(int i) {
        return items.get(i).tag();
    }

    int set(int i, int x) {
        return items.set(i, new Item(x, items.get(i).tag())).number();
    }

    int turn(int from, int to) {
        Collections.reverse(part(from, to));
        return to - from;
    }

    int upTo(int order, int x, boolean beyond) {
        require(order >= 0 && order <= 3);
        return (int) items.stream()
                .takeWhile(item -> compare(order, item.number(), x) < (beyond ? 1 : 0))
                .count();
    }

    int clear() {
        int size = items.size();
        items.clear();
        return size;
    }

    int hash() {
        List<Integer> all = new ArrayList<>();
        for (Item item : items) {
            all.add(item.number());
            all.add(item.tag());
        }
        return all.hashCode();
    }

    private List<Item> part(int from, int to) {
        require(from >= 0 && from <= to && to <= items.size());
        return items.subList(from, to);
    }

    private void requireRoom(int n) {
        if (items.size() + n > 2000) {
            throw new IndexOutOfBoundsException();
        }
    }

    private static void require(boolean holds) {
        if (!holds) {
            throw new IllegalArgumentException();
        }
    }

    // Answers -1, 0 or 1.
    private static int compare(int order, int a, int b) {
        Comparator<Integer> comparator = switch (order) {
            case 0 -> Comparator.naturalOrder();
            case 1 -> Comparator.reverseOrder();
            case 2 -> Comparator.comparing(number -> Math.floorMod(number, 16));
            default -> Comparator.comparing(Integer::toUnsignedLong);
        };
        return Integer.signum(comparator.compare(a, b));
    }
}
