/** A state in which a change of any number of the row, or of any number kept, shows. */
final class Marked {
    static final int PLACES = 1024;
    static final int COUNT_KEPT = 1000;

    private static final int PRIME = 12289;
    private static final int ROOT = 10302;
    private static final int PART = 200;

    /** Places and numbers put before the numbers are kept: beyond every prime, below 0, and 0. */
    private static final long[][] KEPT_MARKS = {{0, Long.MIN_VALUE + 5}, {1, -1}, {2, 3000000019L}, {3, 0}, {9, -77},
        {511, Long.MAX_VALUE}, {512, -2}, {998, 1L << 40}, {999, -1000000008}};
    private static final long[][] ROW_MARKS = {{0, -9}, {1, Long.MAX_VALUE - 4}, {2, Long.MIN_VALUE}, {3, 1000000008},
        {4, -12290}, {5, 0}, {6, 1L << 33}, {7, -5}, {8, 40000}, {16, -16}, {31, -31}, {32, -32}, {255, -255},
        {256, -256}, {511, -511}, {512, -512}, {513, -513}, {999, -999}, {1000, -1000}, {1022, 1L << 50},
        {1023, Long.MIN_VALUE + 1}};

    private Marked() {
    }

    /** A call, with its answer as a long: true is 1, false is 0. */
    interface Call {
        long on(Subject x);
    }

    static Subject make() {
        Subject x = new Subject();
        x.put(1, 1);
        x.transform(PLACES, PRIME, false);
        putAll(x, KEPT_MARKS);
        x.keep(COUNT_KEPT);
        putAll(x, ROW_MARKS);
        return x;
    }

    static long[] row() {
        long[] numbers = powersOfRoot();
        setAll(numbers, KEPT_MARKS);
        setAll(numbers, ROW_MARKS);
        return numbers;
    }

    static long[] kept() {
        long[] numbers = powersOfRoot();
        setAll(numbers, KEPT_MARKS);
        for (int k = COUNT_KEPT; k < PLACES; k++) {
            numbers[k] = 0;
        }
        return numbers;
    }

    static void unchangedBy(Check check, String name, Call call, long answer) {
        leads(check, name, call, answer, row(), kept());
    }

    /** The call, made in the marked state, is answered so and leaves this row and these kept. */
    static void leads(Check check, String name, Call call, long answer, long[] row, long[] kept) {
        for (int from = 0; from < PLACES; from += PART) {
            int to = Math.min(from + PART, PLACES);
            Subject x = make();
            check.due(name, call.on(x), answer);
            for (int k = from; k < to; k++) {
                check.due("after " + name + ": get(" + k + ")", x.get(k), row[k]);
            }
            Subject y = make();
            call.on(y);
            showKept(check, "after " + name, y, from, to, kept);
        }
    }

    /** Each number kept is seen as its product with 1, so by its rest modulo the greatest prime. */
    static void showKept(Check check, String name, Subject x, int from, int to, long[] kept) {
        for (int k = from; k < to; k++) {
            x.put(k, 1);
        }
        check.due(name + ": times(1024, p)", x.times(PLACES, Inputs.GREATEST), 0);
        for (int k = from; k < to; k++) {
            check.due(name + ": kept at " + k, x.get(k), Math.floorMod(kept[k], (long) Inputs.GREATEST));
        }
    }

    private static long[] powersOfRoot() {
        long[] powers = new long[PLACES];
        powers[0] = 1;
        for (int k = 1; k < PLACES; k++) {
            powers[k] = powers[k - 1] * ROOT % PRIME;
        }
        return powers;
    }

    private static void putAll(Subject x, long[][] marks) {
        for (long[] mark : marks) {
            x.put((int) mark[0], mark[1]);
        }
    }

    private static void setAll(long[] numbers, long[][] marks) {
        for (long[] mark : marks) {
            numbers[(int) mark[0]] = mark[1];
        }
    }
}
