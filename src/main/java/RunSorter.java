/** A row of tagged numbers, sorted in parts by merging the runs that are in it already. */
public final class RunSorter {
    private static final int MOST_NUMBERS = 2000;
    private static final int MOST_BITS = 16;

    private static final int RISING = 0;
    private static final int FALLING = 1;
    private static final int BY_LOWEST_BITS = 2;
    private static final int RISING_WITHOUT_SIGN = 3;

    private static final int LOWEST_FOUR_BITS = 15;
    private static final int SIGN_BIT = 1 << 31;

    private static final int SEED_FACTOR = 1664525;
    private static final int SEED_STEP = 1013904223;

    private final int[] numbers;
    private final int[] tags;
    private int size;

    // Made once and used by every sort, so that no call makes rows of its own.
    private final int[] spareNumbers;
    private final int[] spareTags;
    private final int[] runStarts;

    public RunSorter() {
        numbers = new int[MOST_NUMBERS];
        tags = new int[MOST_NUMBERS];
        size = 0;
        spareNumbers = new int[MOST_NUMBERS];
        spareTags = new int[MOST_NUMBERS];
        // One more than there can be runs: the end of the last run stands behind its start.
        runStarts = new int[MOST_NUMBERS + 1];
    }

    public int fill(int x, int step, int n) throws IllegalArgumentException, IndexOutOfBoundsException {
        requireWithin(n, 0, MOST_NUMBERS);
        requireRoomFor(n);
        for (int i = 0; i < n; i++) {
            append(x + i * step);
        }
        return size;
    }

    public int scatter(int x, int bits, int n) throws IllegalArgumentException, IndexOutOfBoundsException {
        requireWithin(n, 0, MOST_NUMBERS);
        requireWithin(bits, 1, MOST_BITS);
        requireRoomFor(n);
        int mask = (1 << bits) - 1;
        int seed = x;
        for (int i = 0; i < n; i++) {
            seed = SEED_FACTOR * seed + SEED_STEP;
            append((seed >>> 16) & mask);
        }
        return size;
    }

    public int sort(int order, int from, int to) throws IllegalArgumentException {
        requireOrder(order);
        requirePart(from, to);
        for (int runs = findRuns(order, from, to); runs > 1; runs = (runs + 1) / 2) {
            mergePairsOfRuns(order, runs);
        }
        return to - from;
    }

    public int get(int i) throws IndexOutOfBoundsException {
        requireIndex(i);
        return numbers[i];
    }

    public int tag(int i) throws IndexOutOfBoundsException {
        requireIndex(i);
        return tags[i];
    }

    public int set(int i, int x) throws IndexOutOfBoundsException {
        requireIndex(i);
        int old = numbers[i];
        numbers[i] = x;
        return old;
    }

    public int turn(int from, int to) throws IllegalArgumentException {
        requirePart(from, to);
        int count = to - from;
        for (int i = 0; i < count / 2; i++) {
            swap(from + i, to - 1 - i);
        }
        return count;
    }

    // Looks at one after the other: halving would be wrong where the row is not in that order.
    public int upTo(int order, int x, boolean beyond) throws IllegalArgumentException {
        requireOrder(order);
        int limit = rank(order, x);
        for (int i = 0; i < size; i++) {
            int here = rank(order, numbers[i]);
            if (here > limit || (here == limit && !beyond)) {
                return i;
            }
        }
        return size;
    }

    public int clear() {
        int old = size;
        size = 0;
        return old;
    }

    public int hash() {
        int h = 1;
        for (int i = 0; i < size; i++) {
            h = 31 * h + numbers[i];
            h = 31 * h + tags[i];
        }
        return h;
    }

    private static void requireWithin(int value, int least, int most) {
        if (value < least || value > most) {
            throw new IllegalArgumentException("a number is out of range");
        }
    }

    private static void requireOrder(int order) {
        requireWithin(order, RISING, RISING_WITHOUT_SIGN);
    }

    private void requirePart(int from, int to) {
        requireWithin(to, 0, size);
        requireWithin(from, 0, to);
    }

    private void requireRoomFor(int n) {
        if (n > MOST_NUMBERS - size) {
            throw new IndexOutOfBoundsException("the row would be too long");
        }
    }

    private void requireIndex(int i) {
        if (i < 0 || i >= size) {
            throw new IndexOutOfBoundsException("there is no number at that index");
        }
    }

    private void append(int number) {
        numbers[size] = number;
        tags[size] = size;
        size++;
    }

    private void swap(int i, int j) {
        int number = numbers[i];
        int tag = tags[i];
        numbers[i] = numbers[j];
        tags[i] = tags[j];
        numbers[j] = number;
        tags[j] = tag;
    }

    // One number comes before another in an order just if its rank is the lower one,
    // so that two are alike just if their ranks are the same.
    private static int rank(int order, int number) {
        switch (order) {
            case FALLING:
                return ~number;
            case BY_LOWEST_BITS:
                return number & LOWEST_FOUR_BITS;
            case RISING_WITHOUT_SIGN:
                return number ^ SIGN_BIT;
            default:
                return number;
        }
    }

    // A run goes on over those that are alike, so that there are fewer runs to merge.
    private int findRuns(int order, int from, int to) {
        int runs = 0;
        for (int i = from; i < to; i++) {
            if (i == from || rank(order, numbers[i]) < rank(order, numbers[i - 1])) {
                runStarts[runs] = i;
                runs++;
            }
        }
        runStarts[runs] = to;
        return runs;
    }

    private void mergePairsOfRuns(int order, int runs) {
        for (int r = 0; r + 1 < runs; r += 2) {
            merge(order, runStarts[r], runStarts[r + 1], runStarts[r + 2]);
        }
        int left = (runs + 1) / 2;
        for (int r = 0; r <= left; r++) {
            // Of an odd number of runs the last has no pair: the end lies one place nearer.
            runStarts[r] = runStarts[Math.min(2 * r, runs)];
        }
    }

    // Only the first run is put aside: the place that is written never overtakes
    // the next of the second run.
    private void merge(int order, int start, int middle, int end) {
        int aside = middle - start;
        System.arraycopy(numbers, start, spareNumbers, 0, aside);
        System.arraycopy(tags, start, spareTags, 0, aside);
        int first = 0;
        int second = middle;
        for (int place = start; place < end && first < aside; place++) {
            // Of those alike the first run's come first, as they stood.
            if (second < end && rank(order, numbers[second]) < rank(order, spareNumbers[first])) {
                numbers[place] = numbers[second];
                tags[place] = tags[second];
                second++;
            } else {
                numbers[place] = spareNumbers[first];
                tags[place] = spareTags[first];
                first++;
            }
        }
    }
}
