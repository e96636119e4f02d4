/** The edges of each promise: which calls are still taken, and just which numbers they change. */
public final class CallsTest {
    private static final Check check = new Check();

    public static void main(String[] args) {
        newObjectHasAllNumbers0();
        newObjectHasNoneKept();
        objectsHaveRowsOfTheirOwn();
        putTakesFirstAndLastAndNoOther();
        getAnswersFirstAndLastAndChangesNothing();
        transformChangesTheFirstNAlone();
        keepTakes0To1024();
        keepIsInPlaceOfThoseKeptBefore();
        keptIsACopy();
        timesTakes0To1024();
        timesOf0ChangesNothing();
        timesNeedsNoSizeAndNoDivisor();
        timesIs0WhereNoneIsKept();
        timesIsFrom0OnAndDoesNotOverflow();
        timesLeavesTheKept();
        rootTakenChangesNothing();
        call512IsAnswered();
        all512CallsOfOneKindAreAnswered();
        check.end();
    }

    private static void newObjectHasAllNumbers0() {
        Marked.make();
        for (int from = 0; from < 1024; from += 256) {
            Subject x = new Subject();
            for (int k = from; k < from + 256; k++) {
                check.due("new: get(" + k + ")", x.get(k), 0);
            }
        }
    }

    private static void newObjectHasNoneKept() {
        Marked.make();
        for (int from = 0; from < 1024; from += 128) {
            Marked.showKept(check, "new", new Subject(), from, from + 128, new long[1024]);
        }
    }

    private static void objectsHaveRowsOfTheirOwn() {
        Subject x = new Subject();
        x.put(0, 5);
        x.put(1023, 6);
        x.keep(1024);
        Subject y = new Subject();
        y.put(0, 8);
        y.put(1023, 9);
        y.keep(0);
        check.due("get(0) of the first", x.get(0), 5);
        check.due("get(1023) of the first", x.get(1023), 6);
        check.due("times(1024, 101) of the first", x.times(1024, 101), 0);
        check.due("get(0) of the first, times", x.get(0), 25);
        check.due("get(1023) of the first, times", x.get(1023), 36);
        check.due("get(0) of the second", y.get(0), 8);
        check.due("get(1023) of the second", y.get(1023), 9);
    }

    private static void putTakesFirstAndLastAndNoOther() {
        for (int k : new int[] {0, 1, 511, 512, 1022, 1023}) {
            for (long v : new long[] {Long.MIN_VALUE, -3, 0, Long.MAX_VALUE}) {
                long[] row = Marked.row();
                row[k] = v;
                Marked.leads(check, "put(" + k + ", " + v + ")", x -> x.put(k, v) ? 1 : 0, 1, row, Marked.kept());
            }
        }
    }

    private static void getAnswersFirstAndLastAndChangesNothing() {
        for (int k : new int[] {0, 1, 511, 512, 1022, 1023}) {
            Marked.unchangedBy(check, "get(" + k + ")", x -> x.get(k), Marked.row()[k]);
        }
    }

    private static void transformChangesTheFirstNAlone() {
        for (int[] pair : new int[][] {{12289, 1024}, {999995393, 1024}, {1000000007, 2}, {3, 2}}) {
            int p = pair[0];
            for (int n = 1; n <= pair[1]; n *= 2) {
                int size = n;
                for (boolean back : new boolean[] {false, true}) {
                    String name = "transform(" + n + ", " + p + ", " + back + ")";
                    long[] row = transformed(n, p, back);
                    Marked.leads(check, name, x -> x.transform(size, p, back), 0, row, Marked.kept());
                }
            }
        }
    }

    private static long[] transformed(int n, int p, boolean back) {
        Reference reference = new Reference();
        long[] row = Marked.row();
        for (int k = 0; k < n; k++) {
            reference.put(k, row[k]);
        }
        reference.transform(n, p, back);
        for (int k = 0; k < n; k++) {
            row[k] = reference.get(k);
        }
        return row;
    }

    private static void keepTakes0To1024() {
        for (int n : new int[] {0, 1, 2, 3, 511, 512, 1000, 1001, 1022, 1023, 1024}) {
            long[] kept = Marked.row();
            for (int k = n; k < 1024; k++) {
                kept[k] = 0;
            }
            Marked.leads(check, "keep(" + n + ")", x -> x.keep(n) ? 1 : 0, 1, Marked.row(), kept);
        }
    }

    private static void keepIsInPlaceOfThoseKeptBefore() {
        Subject x = new Subject();
        x.put(0, 1);
        x.transform(1024, 12289, false);
        check.due("keep(1024)", x.keep(1024), true);
        check.due("keep(2)", x.keep(2), true);
        check.due("times(1024, 7)", x.times(1024, 7), 0);
        check.row("keep(1024), keep(2), times", x, 1, 1, 0, 0);
        check.due("get(1023)", x.get(1023), 0);
        Subject y = new Subject();
        y.put(0, 3);
        check.due("keep(1)", y.keep(1), true);
        check.due("keep(0)", y.keep(0), true);
        check.due("times(1, 7)", y.times(1, 7), 0);
        check.row("keep(1), keep(0), times", y, 0);
        Subject z = new Subject();
        z.put(0, 3);
        check.due("keep(1)", z.keep(1), true);
        z.put(1, 2);
        check.due("keep(2)", z.keep(2), true);
        check.due("times(3, 7)", z.times(3, 7), 0);
        check.row("keep(1), keep(2), times", z, 2, 4, 0);
    }

    private static void keptIsACopy() {
        Marked.leads(check, "transform after keep", x -> x.transform(1, 3, false), 0, transformed(1, 3, false),
            Marked.kept());
        Subject x = new Subject();
        x.put(0, 3);
        x.put(1, 4);
        x.keep(2);
        x.put(0, 2);
        x.transform(2, 17, false);
        check.row("transform(2, 17, false)", x, 6, 15);
        check.due("times(2, 17)", x.times(2, 17), 0);
        check.row("times by what was kept before the put", x, 1, 9);
    }

    private static void timesTakes0To1024() {
        for (int p : new int[] {3, 12289, 1000000007}) {
            for (int n : new int[] {0, 1, 2, 3, 999, 1000, 1001, 1022, 1023, 1024}) {
                Marked.leads(check, "times(" + n + ", " + p + ")", x -> x.times(n, p), 0, products(n, p),
                    Marked.kept());
            }
        }
    }

    private static long[] products(int n, long p) {
        long[] row = Marked.row();
        long[] kept = Marked.kept();
        for (int k = 0; k < n; k++) {
            row[k] = Math.floorMod(row[k], p) * Math.floorMod(kept[k], p) % p;
        }
        return row;
    }

    private static void timesOf0ChangesNothing() {
        for (int p : Inputs.PRIMES) {
            Marked.unchangedBy(check, "times(0, " + p + ")", x -> x.times(0, p), 0);
        }
    }

    private static void timesNeedsNoSizeAndNoDivisor() {
        Subject x = new Subject();
        x.put(0, 4);
        x.put(4, 5);
        x.keep(5);
        check.due("times(5, 7): 5 is no size", x.times(5, 7), 0);
        check.row("times(5, 7)", x, 2, 0, 0, 0, 4);
        check.due("times(4, 7): 4 does not divide 6", x.times(4, 7), 0);
        check.row("times(4, 7)", x, 1, 0, 0, 0, 4);
        check.due("times(1024, 1000000007): 1024 does not divide", x.times(1024, 1000000007), 0);
        check.row("times(1024, 1000000007)", x, 4, 0, 0, 0, 20);
    }

    private static void timesIs0WhereNoneIsKept() {
        Subject x = new Subject();
        for (int k = 0; k < 6; k++) {
            x.put(k, k + 2);
        }
        x.keep(3);
        check.due("times(5, 101)", x.times(5, 101), 0);
        check.row("keep(3), times(5, 101)", x, 4, 9, 16, 0, 0, 7);
    }

    private static void timesIsFrom0OnAndDoesNotOverflow() {
        int p = 1000000007;
        productIs(p - 1, p - 1, p, 1);
        productIs(-1, 1, p, p - 1);
        productIs(1, -1, p, p - 1);
        productIs(-1, -1, p, 1);
        productIs(p, p - 1, p, 0);
        productIs(-p, 5, p, 0);
        productIs(Long.MIN_VALUE, Long.MIN_VALUE, p, 319908071);
        productIs(Long.MIN_VALUE, -1, p, 291172004);
        productIs(Long.MAX_VALUE, -1, p, 708828004);
        productIs(Long.MAX_VALUE, Long.MIN_VALUE, 3, 1);
        productIs(2, 2, 3, 1);
        productIs(-2, 1, 3, 1);
        productIs(3, 2, 3, 0);
    }

    private static void productIs(long a, long b, int p, long product) {
        Subject x = new Subject();
        x.put(0, b);
        x.put(1023, b);
        x.keep(1024);
        x.put(0, a);
        x.put(1023, a);
        check.due("times(1024, " + p + ")", x.times(1024, p), 0);
        check.due("first, " + a + " times " + b + " modulo " + p, x.get(0), product);
        check.due("last, " + a + " times " + b + " modulo " + p, x.get(1023), product);
    }

    private static void timesLeavesTheKept() {
        Subject x = new Subject();
        x.put(0, 20);
        x.keep(1);
        check.due("times(1, 3)", x.times(1, 3), 0);
        check.row("times(1, 3)", x, 1);
        check.due("times(1, 101)", x.times(1, 101), 0);
        check.row("times(1, 101) by the 20 kept", x, 20);
    }

    private static void rootTakenChangesNothing() {
        Marked.unchangedBy(check, "root(1, 3)", x -> x.root(1, 3), 1);
        Marked.unchangedBy(check, "root(2, 3)", x -> x.root(2, 3), 2);
        Marked.unchangedBy(check, "root(2, 1000000007)", x -> x.root(2, 1000000007), 1000000006);
        Marked.unchangedBy(check, "root(1024, 12289)", x -> x.root(1024, 12289), 10302);
    }

    private static void call512IsAnswered() {
        lastCallIs("get", x -> x.get(1), 2);
        lastCallIs("put", x -> x.put(1023, 5) ? 1 : 0, 1);
        lastCallIs("put refused", x -> x.put(1024, 5) ? 1 : 0, 0);
        lastCallIs("transform", x -> x.transform(1024, 12289, true), 0);
        lastCallIs("transform refused", x -> x.transform(4, 7, true), -3);
        lastCallIs("keep", x -> x.keep(1024) ? 1 : 0, 1);
        lastCallIs("keep refused", x -> x.keep(1025) ? 1 : 0, 0);
        lastCallIs("times", x -> x.times(1024, 1000000007), 0);
        lastCallIs("times refused", x -> x.times(1025, 1000000007), -1);
        lastCallIs("root", x -> x.root(1024, 12289), 10302);
    }

    /** The 512th call, behind calls of every kind, the dearest among them. */
    private static void lastCallIs(String name, Marked.Call call, long answer) {
        Subject x = new Subject();
        check.due("put(0, 1)", x.put(0, 1), true);
        check.due("put(1, 2)", x.put(1, 2), true);
        while (x.calls() + 6 < Subject.MOST_CALLS) {
            check.due("transform(1024, 12289, false)", x.transform(1024, 12289, false), 0);
            check.due("keep(1024)", x.keep(1024), true);
            check.due("transform(1024, 12289, true)", x.transform(1024, 12289, true), 0);
            check.due("times(0, 1000000007)", x.times(0, 1000000007), 0);
            check.due("root(2, 1000000007)", x.root(2, 1000000007), 1000000006);
        }
        while (x.calls() + 1 < Subject.MOST_CALLS) {
            check.due("get(1)", x.get(1), 2);
        }
        check.due("call " + (x.calls() + 1) + ", " + name, call.on(x), answer);
        check.due("calls made", x.calls(), Subject.MOST_CALLS);
    }

    private static void all512CallsOfOneKindAreAnswered() {
        allCallsAre("get(1023)", x -> x.get(1023), 0);
        allCallsAre("put(1023, 5)", x -> x.put(1023, 5) ? 1 : 0, 1);
        allCallsAre("put(1024, 5)", x -> x.put(1024, 5) ? 1 : 0, 0);
        allCallsAre("transform(1024, 12289, false)", x -> x.transform(1024, 12289, false), 0);
        allCallsAre("transform(1024, 12289, true)", x -> x.transform(1024, 12289, true), 0);
        allCallsAre("transform(1024, 1000000007, true)", x -> x.transform(1024, 1000000007, true), -3);
        allCallsAre("keep(1024)", x -> x.keep(1024) ? 1 : 0, 1);
        allCallsAre("keep(1025)", x -> x.keep(1025) ? 1 : 0, 0);
        allCallsAre("times(1024, 1000000007)", x -> x.times(1024, 1000000007), 0);
        allCallsAre("times(1024, 1000000006)", x -> x.times(1024, 1000000006), -2);
        allCallsAre("root(2, 1000000007)", x -> x.root(2, 1000000007), 1000000006);
        allCallsAre("root(4, 1000000007)", x -> x.root(4, 1000000007), 0);
    }

    private static void allCallsAre(String name, Marked.Call call, long answer) {
        Subject x = new Subject();
        while (x.calls() < Subject.MOST_CALLS) {
            check.due("call " + (x.calls() + 1) + ", " + name, call.on(x), answer);
        }
    }
}
