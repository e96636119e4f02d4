/** Each promise by hand: ordinary inputs, the edges that the document names, wrong inputs. */
public final class PromisesTest {
    private static final int MIN = Integer.MIN_VALUE;
    private static final int MAX = Integer.MAX_VALUE;
    private static final int[] NO_SIZES = {MIN, -4, -1, 0, 3, 5, 6, 12, 1000, 1023, 1025, 2048, 1 << 30, MAX};
    private static final int[] NO_COUNTS = {MIN, -1024, -1, 1025, 2048, MAX};
    private static final int[] NO_PRIMES = {MIN, -17, -3, -1, 0, 1, 2, 4, 9, 15, 25, 49, 561, 341, 1024, 1025,
        999950884, 999950885, 31607 * 31607, 999999999, 1000000000, 1000000005, 1000000006,
        1000000008, 1000000009, 1000000021, MAX};

    private static final Check check = new Check();

    public static void main(String[] args) {
        newObject();
        put();
        get();
        transform();
        transformOfEdges();
        transformRefused();
        keep();
        times();
        timesRefused();
        root();
        check.end();
    }

    private static ResidueTransforms with(long... numbers) {
        ResidueTransforms x = new ResidueTransforms();
        for (int k = 0; k < numbers.length; k++) {
            x.put(k, numbers[k]);
        }
        return x;
    }

    private static void newObject() {
        ResidueTransforms used = with(5, 6, 7);
        used.keep(3);
        ResidueTransforms x = new ResidueTransforms();
        check.row("new", x, new long[1024]);
        x.put(0, 4);
        check.due("times on a new object", x.times(1, 7), 0);
        check.row("times with nothing kept", x, 0);
        check.row("another object was made", used, 5, 6, 7);
    }

    private static void put() {
        ResidueTransforms x = with(1, 2, 3);
        check.due("put(0, min)", x.put(0, Long.MIN_VALUE), true);
        check.due("put(1023, max)", x.put(1023, Long.MAX_VALUE), true);
        check.row("put(0, min)", x, Long.MIN_VALUE, 2, 3, 0);
        check.due("get(1023)", x.get(1023), Long.MAX_VALUE);
        check.due("put(1, -9)", x.put(1, -9), true);
        check.due("put(1, 0)", x.put(1, 0), true);
        check.row("put(1, 0)", x, Long.MIN_VALUE, 0, 3, 0);
        for (int k : new int[] {MIN, -1024, -1, 1024, 1025, 2048, MAX}) {
            check.due("put(" + k + ", 77)", x.put(k, 77), false);
        }
        check.row("puts refused", x, Long.MIN_VALUE, 0, 3, 0);
        check.due("get(1023) after puts refused", x.get(1023), Long.MAX_VALUE);
    }

    private static void get() {
        ResidueTransforms x = new ResidueTransforms();
        for (int k = 0; k < 1024; k++) {
            x.put(k, 1000000L * 1000000L * (k + 1));
        }
        for (int k = 0; k < 1024; k++) {
            check.due("get(" + k + ")", x.get(k), 1000000L * 1000000L * (k + 1));
        }
        for (int k : new int[] {MIN, -1024, -1, 1024, 1025, 2048, MAX}) {
            check.due("get(" + k + ")", x.get(k), 0);
        }
    }

    private static void transform() {
        ResidueTransforms x = with(1, 2, 3, 4, 5);
        check.due("transform(4, 17, false)", x.transform(4, 17, false), 0);
        check.row("transform(4, 17, false)", x, 10, 6, 15, 7, 5, 0);
        check.due("transform(4, 17, true)", x.transform(4, 17, true), 0);
        check.row("transform(4, 17, true)", x, 1, 2, 3, 4, 5, 0);
        check.due("back before there", x.transform(4, 17, true), 0);
        check.due("there after back", x.transform(4, 17, false), 0);
        check.row("back, there", x, 1, 2, 3, 4, 5, 0);
        ResidueTransforms y = with(1, 2, 3, 4);
        y.transform(4, 17, true);
        // 10, 7, 15, 6 times 13, the inverse of 4.
        check.row("transform(4, 17, true)", y, 11, 6, 8, 10);
    }

    private static void transformOfEdges() {
        ResidueTransforms x = with(-1, -18, 17, Long.MIN_VALUE);
        check.due("transform(1, 17, false)", x.transform(1, 17, false), 0);
        check.row("transform(1, 17, false)", x, 16, -18, 17, Long.MIN_VALUE);
        check.due("transform(1, 3, true)", x.transform(1, 3, true), 0);
        check.row("transform(1, 3, true)", x, 1, -18, 17, Long.MIN_VALUE);
        check.due("transform(2, 3, true)", x.transform(2, 3, true), 0);
        check.row("transform(2, 3, true)", x, 2, 2, 17, Long.MIN_VALUE);
        ResidueTransforms y = with(Long.MAX_VALUE, Long.MIN_VALUE, 8);
        check.due("transform(2, 1000000007, false)", y.transform(2, 1000000007, false), 0);
        // The rests are 291172003 and 708828003.
        check.row("transform(2, 1000000007, false)", y, 1000000006, 582344007, 8);
        check.due("transform(2, 1000000007, true)", y.transform(2, 1000000007, true), 0);
        check.row("transform(2, 1000000007, true)", y, 291172003, 708828003, 8);
        ResidueTransforms z = with(1, 1);
        z.put(1023, 1);
        check.due("transform(1024, 12289, false)", z.transform(1024, 12289, false), 0);
        check.due("get(0)", z.get(0), 3);
        check.due("get(512)", z.get(512), 12288);
        check.due("transform(1024, 12289, true)", z.transform(1024, 12289, true), 0);
        check.row("transform(1024, 12289, true)", z, 1, 1, 0, 0);
        check.due("get(1023)", z.get(1023), 1);
    }

    private static void transformRefused() {
        ResidueTransforms x = with(-5, 40, 50, 60);
        for (boolean back : new boolean[] {false, true}) {
            for (int n : NO_SIZES) {
                transformIs(x, n, 7681, back, -1);
                transformIs(x, n, 8, back, -1);
            }
            for (int p : NO_PRIMES) {
                transformIs(x, 1, p, back, -2);
                transformIs(x, 1024, p, back, -2);
            }
            transformIs(x, 4, 3, back, -3);
            transformIs(x, 4, 7, back, -3);
            transformIs(x, 4, 1000000007, back, -3);
            transformIs(x, 1024, 7681, back, -3);
            transformIs(x, 1024, 257, back, -3);
        }
        check.row("transforms refused", x, -5, 40, 50, 60, 0);
    }

    private static void transformIs(ResidueTransforms x, int n, int p, boolean back, int want) {
        check.due("transform(" + n + ", " + p + ", " + back + ")", x.transform(n, p, back), want);
    }

    private static void keep() {
        ResidueTransforms x = with(2, 3, 4);
        check.due("keep(2)", x.keep(2), true);
        check.row("keep(2)", x, 2, 3, 4, 0);
        x.put(0, 10);
        for (int n : NO_COUNTS) {
            check.due("keep(" + n + ")", x.keep(n), false);
        }
        check.due("times(3, 101)", x.times(3, 101), 0);
        check.row("keep(2), times(3, 101)", x, 20, 9, 0, 0);
        check.due("keep(1)", x.keep(1), true);
        check.due("times(2, 101)", x.times(2, 101), 0);
        check.row("keep(1) in place of keep(2)", x, 97, 0, 0);
        check.due("keep(0)", x.keep(0), true);
        check.due("times(1, 101)", x.times(1, 101), 0);
        check.row("keep(0)", x, 0);
        x.put(1023, 6);
        check.due("keep(1024)", x.keep(1024), true);
        check.due("times(1024, 31)", x.times(1024, 31), 0);
        check.due("get(1023)", x.get(1023), 5);
        check.due("keep(1023)", x.keep(1023), true);
        check.due("times(1024, 31)", x.times(1024, 31), 0);
        check.due("get(1023) after keep(1023)", x.get(1023), 0);
    }

    private static void times() {
        ResidueTransforms x = with(-1, 1000000006, Long.MIN_VALUE, 7, -7);
        check.due("keep(4)", x.keep(4), true);
        x.put(0, 1);
        check.due("times(0, 1000000007)", x.times(0, 1000000007), 0);
        check.row("times(0, 1000000007)", x, 1, 1000000006, Long.MIN_VALUE, 7, -7);
        check.due("times(3, 1000000007)", x.times(3, 1000000007), 0);
        // 708828003 squared, modulo 1000000007.
        check.row("times(3, 1000000007)", x, 1000000006, 1, 319908071, 7, -7);
        check.due("times(4, 3)", x.times(4, 3), 0);
        // The kept are numbers of their own: -1, 1000000006 = 1, -2^63 = 1 and 7 = 1 modulo 3.
        check.row("times(4, 3)", x, 2, 1, 2, 1, -7);
        check.due("times(5, 13)", x.times(5, 13), 0);
        check.due("times, none kept at 4", x.get(4), 0);
        check.due("times(1024, 5)", x.times(1024, 5), 0);
    }

    private static void timesRefused() {
        ResidueTransforms x = with(-5, 40, 50);
        x.keep(3);
        for (int n : NO_COUNTS) {
            check.due("times(" + n + ", 7)", x.times(n, 7), -1);
            check.due("times(" + n + ", 8)", x.times(n, 8), -1);
        }
        for (int p : NO_PRIMES) {
            check.due("times(0, " + p + ")", x.times(0, p), -2);
            check.due("times(3, " + p + ")", x.times(3, p), -2);
        }
        check.row("times refused", x, -5, 40, 50, 0);
    }

    private static void root() {
        ResidueTransforms x = with(3, 4, 5);
        rootIs(x, 1, 3, 1);
        rootIs(x, 1, 1000000007, 1);
        rootIs(x, 2, 3, 2);
        rootIs(x, 2, 1000000007, 1000000006);
        rootIs(x, 4, 5, 2);
        rootIs(x, 4, 17, 13);
        rootIs(x, 16, 17, 3);
        rootIs(x, 256, 257, 3);
        rootIs(x, 8, 41, 38);
        rootIs(x, 1024, 998244353, 258648936);
        for (int n : NO_SIZES) {
            rootIs(x, n, 7681, 0);
        }
        for (int p : NO_PRIMES) {
            rootIs(x, 1, p, 0);
            rootIs(x, 2, p, 0);
        }
        rootIs(x, 4, 7, 0);
        rootIs(x, 4, 1000000007, 0);
        rootIs(x, 1024, 7681, 0);
        check.row("roots", x, 3, 4, 5, 0);
    }

    private static void rootIs(ResidueTransforms x, int n, int p, long want) {
        check.due("root(" + n + ", " + p + ")", x.root(n, p), want);
    }
}
