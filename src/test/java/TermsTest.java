import java.math.BigInteger;

/** The document's Terms, sentence by sentence: at each edge the last that is taken and the first that is refused. */
public final class TermsTest {
    private static final int PART = 200;

    private static final Check check = new Check();

    public static void main(String[] args) {
        rowHas1024NumbersAtFirst0();
        everyNumberIsALongOfItsOwn();
        sizesAre1To1024ByDoubling();
        primesReachFrom3();
        primesReachTo1000000007();
        primesAreNoProducts();
        sizeDividesPrimeLess1();
        rootIs1IfSizeIs1();
        rootIsByLeastFittingNumberFrom2();
        numbersAreTakenByTheirRest();
        sumsAreFrom0ToPrimeLess1();
        transformOfTheGreatestSizeAndNumbers();
        backHasTheInverseOfTheRoot();
        backIsTimesTheInverseOfTheSize();
        backUndoesThereAndThereUndoesBack();
        check.end();
    }

    private static void rowHas1024NumbersAtFirst0() {
        for (int from = 0; from < 1024; from += PART) {
            Subject x = new Subject();
            for (int k = from; k < Math.min(from + PART, 1024); k++) {
                check.due("new: get(" + k + ")", x.get(k), 0);
            }
        }
        Subject x = new Subject();
        check.due("put(0, 5): there is a first", x.put(0, 5), true);
        check.due("put(1023, 6): there is a last", x.put(1023, 6), true);
        check.due("put(-1, 7): none before the first", x.put(-1, 7), false);
        check.due("put(1024, 8): none behind the last", x.put(1024, 8), false);
        check.due("get(0)", x.get(0), 5);
        check.due("get(1023)", x.get(1023), 6);
        check.due("get(-1)", x.get(-1), 0);
        check.due("get(1024)", x.get(1024), 0);
    }

    private static void everyNumberIsALongOfItsOwn() {
        for (int from = 0; from < 1024; from += PART) {
            Subject x = new Subject();
            int to = Math.min(from + PART, 1024);
            for (int k = from; k < to; k++) {
                check.due("put(" + k + ", v)", x.put(k, Long.MIN_VALUE + k), true);
            }
            for (int k = from; k < to; k++) {
                check.due("get(" + k + ")", x.get(k), Long.MIN_VALUE + k);
            }
        }
        Subject x = new Subject();
        long[] edges = {Long.MIN_VALUE, Long.MAX_VALUE, Integer.MIN_VALUE - 1L, Integer.MAX_VALUE + 1L, -1, 0};
        for (long v : edges) {
            check.due("put(1023, " + v + ")", x.put(1023, v), true);
            check.due("get(1023)", x.get(1023), v);
        }
    }

    private static void sizesAre1To1024ByDoubling() {
        Subject x = new Subject();
        for (int n = -1100; n <= 4200; n++) {
            if (x.calls() > Subject.MOST_CALLS - 3) {
                x = new Subject();
            }
            // All powers of two up to 4096 divide 12289 - 1.
            boolean size = n >= 1 && n <= 1024 && Integer.bitCount(n) == 1;
            check.due("transform(" + n + ", 12289, false)", x.transform(n, 12289, false), size ? 0 : -1);
            check.due("transform(" + n + ", 12289, true)", x.transform(n, 12289, true), size ? 0 : -1);
            check.due("root(" + n + ", 12289) is there", x.root(n, 12289) != 0, size);
        }
        Subject y = new Subject();
        for (int n : Inputs.NO_SIZES) {
            check.due("transform(" + n + ", 12289, false)", y.transform(n, 12289, false), -1);
        }
    }

    private static void primesReachFrom3() {
        for (int p : new int[] {Inputs.MIN, -5, -3, -2, -1, 0, 1, 2}) {
            primeIs(p, false);
        }
        for (int p : new int[] {3, 5, 7}) {
            primeIs(p, true);
        }
    }

    private static void primesReachTo1000000007() {
        primeIs(999999937, true);
        for (int p = 999999938; p < 1000000007; p++) {
            primeIs(p, false);
        }
        primeIs(1000000007, true);
        // 1000000009 and 1000000021 are primes, and so is the greatest int.
        for (int p = 1000000008; p < 1000000030; p++) {
            primeIs(p, false);
        }
        primeIs(Inputs.MAX, false);
    }

    private static void primesAreNoProducts() {
        for (int p : Inputs.PRIMES) {
            primeIs(p, true);
        }
        for (int p : Inputs.NO_PRIMES) {
            primeIs(p, false);
        }
        for (int p = 3; p < 5000; p++) {
            primeIs(p, BigInteger.valueOf(p).isProbablePrime(60));
        }
        for (int d = 31000; d * d <= 1000000007; d++) {
            primeIs(d * d, false);
        }
    }

    private static void primeIs(int p, boolean taken) {
        Subject x = new Subject();
        check.due("transform(1, " + p + ", false)", x.transform(1, p, false), taken ? 0 : -2);
        check.due("transform(1, " + p + ", true)", x.transform(1, p, true), taken ? 0 : -2);
        check.due("times(1, " + p + ")", x.times(1, p), taken ? 0 : -2);
        check.due("root(1, " + p + ")", x.root(1, p), taken ? 1 : 0);
    }

    private static void sizeDividesPrimeLess1() {
        for (int[] pair : Inputs.GREATEST_SIZES) {
            int p = pair[0];
            Subject x = new Subject();
            for (int n : Inputs.SIZES) {
                boolean divides = n <= pair[1];
                String name = "(" + n + ", " + p + ")";
                check.due("transform" + name, x.transform(n, p, false), divides ? 0 : -3);
                check.due("back" + name, x.transform(n, p, true), divides ? 0 : -3);
                check.due("root is there" + name, x.root(n, p) != 0, divides);
            }
        }
    }

    private static void rootIs1IfSizeIs1() {
        Subject x = new Subject();
        for (int p : Inputs.PRIMES) {
            check.due("root(1, " + p + ")", x.root(1, p), 1);
            check.due("root(2, " + p + ")", x.root(2, p), p - 1);
        }
    }

    private static void rootIsByLeastFittingNumberFrom2() {
        Subject x = new Subject();
        // h is 2, the first that is tried, and for 3 the only one.
        rootIs(x, 2, 3, 2);
        rootIs(x, 4, 5, 2);
        // h is 3: 2 is a square modulo these.
        rootIs(x, 4, 17, 13);
        rootIs(x, 8, 17, 9);
        rootIs(x, 16, 17, 3);
        rootIs(x, 8, 41, 38);
        rootIs(x, 256, 257, 3);
        rootIs(x, 1024, 998244353, 258648936);
        rootIs(x, 1024, 999995393, 89628548);
        // h is 5, 11, 13, 47 and 53.
        rootIs(x, 16, 97, 8);
        rootIs(x, 64, 999999937, 858644207);
        rootIs(x, 1024, 12289, 10302);
        rootIs(x, 1024, 754974721, 445365557);
        rootIs(x, 512, 7681, 4055);
        rootIs(x, 16, 3818929, 41269);
        rootIs(x, 8, 3818929, 3706956);
        rootIs(x, 16, 9257329, 6312163);
        rootIs(x, 4, 9257329, 1210391);
    }

    /** The transform has W too: of 0, 1, 0 .. 0 it has W at place 1. */
    private static void rootIs(Subject x, int n, int p, long w) {
        check.due("root(" + n + ", " + p + ")", x.root(n, p), w);
        Subject y = new Subject();
        y.put(1, 1);
        check.due("transform(" + n + ", " + p + ", false)", y.transform(n, p, false), 0);
        check.row("transform(" + n + ", " + p + ", false)", y, 1, w);
    }

    private static void numbersAreTakenByTheirRest() {
        for (int p : Inputs.PRIMES) {
            Subject x = new Subject();
            restIs(x, 0, p, 0);
            restIs(x, 1, p, 1);
            restIs(x, p - 1L, p, p - 1L);
            restIs(x, p, p, 0);
            restIs(x, p + 1L, p, 1);
            restIs(x, -1, p, p - 1L);
            restIs(x, 1L - p, p, 1);
            restIs(x, -p, p, 0);
            restIs(x, -1L - p, p, p - 1L);
            restIs(x, 1000000007L * p, p, 0);
            restIs(x, -1000000007L * p - 1, p, p - 1L);
            BigInteger prime = BigInteger.valueOf(p);
            for (long v : new long[] {Long.MIN_VALUE, Long.MIN_VALUE + 1, Long.MAX_VALUE}) {
                restIs(x, v, p, BigInteger.valueOf(v).mod(prime).longValueExact());
            }
        }
        restIs(new Subject(), Long.MIN_VALUE, 1000000007, 708828003);
        restIs(new Subject(), Long.MAX_VALUE, 1000000007, 291172003);
    }

    private static void restIs(Subject x, long v, int p, long rest) {
        for (boolean back : new boolean[] {false, true}) {
            x.put(0, v);
            check.due("transform(1, " + p + ", " + back + ")", x.transform(1, p, back), 0);
            check.due("rest of " + v + " modulo " + p, x.get(0), rest);
        }
        x.put(0, 1);
        x.keep(1);
        x.put(0, v);
        check.due("times(1, " + p + ")", x.times(1, p), 0);
        check.due("rest of " + v + " in times, modulo " + p, x.get(0), rest);
        x.put(0, v);
        x.keep(1);
        x.put(0, 1);
        check.due("times(1, " + p + ")", x.times(1, p), 0);
        check.due("rest of " + v + ", kept, modulo " + p, x.get(0), rest);
    }

    private static void sumsAreFrom0ToPrimeLess1() {
        Subject x = new Subject();
        for (int a = 0; a < 3; a++) {
            for (int b = 0; b < 3; b++) {
                pairBecomes(x, a, b, 3, (a + b) % 3, (a - b + 3) % 3);
            }
        }
        int p = 1000000007;
        pairBecomes(x, p - 1, p - 1, p, p - 2, 0);
        pairBecomes(x, 0, p - 1, p, p - 1, 1);
        pairBecomes(x, p - 1, 0, p, p - 1, p - 1);
        pairBecomes(x, 1, p - 1, p, 0, 2);
        pairBecomes(x, 0, 0, p, 0, 0);
        pairBecomes(x, p, -p, p, 0, 0);
    }

    private static void pairBecomes(Subject x, long a, long b, int p, long first, long second) {
        String name = "transform(2, " + p + ", false) of " + a + ", " + b;
        x.put(0, a);
        x.put(1, b);
        check.due(name, x.transform(2, p, false), 0);
        check.row(name, x, first, second);
    }

    private static void transformOfTheGreatestSizeAndNumbers() {
        // 999995393 is the greatest prime of all that 1024 divides when less 1.
        int p = 999995393;
        for (int from = 0; from < 1024; from += PART) {
            int to = Math.min(from + PART, 1024);
            Subject x = new Subject();
            x.put(0, -1);
            check.due("transform(1024, p, false)", x.transform(1024, p, false), 0);
            for (int k = from; k < to; k++) {
                check.due("transform of -1, 0 .. 0: get(" + k + ")", x.get(k), p - 1);
            }
            check.due("transform(1024, p, false)", x.transform(1024, p, false), 0);
            for (int k = from; k < to; k++) {
                check.due("transform of all p - 1: get(" + k + ")", x.get(k), k == 0 ? p - 1024 : 0);
            }
        }
    }

    private static void backHasTheInverseOfTheRoot() {
        Subject x = new Subject();
        // Of 0, 4, 0, 0: 4 times the inverse of 4 times the powers of 4, which is the inverse of W = 13.
        x.put(1, 4);
        check.due("transform(4, 17, true)", x.transform(4, 17, true), 0);
        check.row("transform(4, 17, true)", x, 1, 4, 16, 13, 0);
        // Of 0, 1024, 0 .. 0: the powers of 8974, which is the inverse of W = 10302.
        Subject y = new Subject();
        y.put(1, 1024);
        check.due("transform(1024, 12289, true)", y.transform(1024, 12289, true), 0);
        check.row("transform(1024, 12289, true)", y, 1, 8974, 8974L * 8974L % 12289);
        check.due("get(1023)", y.get(1023), 10302);
    }

    private static void backIsTimesTheInverseOfTheSize() {
        for (int p : new int[] {12289, 65537, 998244353, 999995393}) {
            for (int n : Inputs.SIZES) {
                long inverse = BigInteger.valueOf(n).modInverse(BigInteger.valueOf(p)).longValueExact();
                Subject x = new Subject();
                x.put(0, 1);
                check.due("transform(" + n + ", " + p + ", true)", x.transform(n, p, true), 0);
                check.due("back of 1, 0 .. 0: first of " + n, x.get(0), inverse);
                check.due("back of 1, 0 .. 0: last of " + n, x.get(n - 1), inverse);
            }
        }
        Subject x = new Subject();
        x.put(0, 1);
        check.due("transform(2, 3, true)", x.transform(2, 3, true), 0);
        check.row("transform(2, 3, true) of 1, 0", x, 2, 2);
        Subject y = new Subject();
        y.put(0, 1);
        check.due("transform(2, 1000000007, true)", y.transform(2, 1000000007, true), 0);
        check.row("transform(2, 1000000007, true) of 1, 0", y, 500000004, 500000004);
    }

    private static void backUndoesThereAndThereUndoesBack() {
        for (int[] pair : Inputs.GREATEST_SIZES) {
            for (int n : Inputs.SIZES) {
                if (n <= pair[1]) {
                    undoes(n, pair[0], false);
                    undoes(n, pair[0], true);
                }
            }
        }
    }

    private static void undoes(int n, int p, boolean backFirst) {
        Subject x = new Subject();
        int step = Math.max(1, n / 128);
        for (int k = 0; k < n; k += step) {
            x.put(k, Long.MIN_VALUE + 1234567890123L * k);
        }
        String name = "transform(" + n + ", " + p + ", both ways)";
        check.due(name, x.transform(n, p, backFirst), 0);
        check.due(name, x.transform(n, p, !backFirst), 0);
        for (int k = 0; k < n; k += step) {
            long rest = Math.floorMod(Long.MIN_VALUE + 1234567890123L * k, (long) p);
            check.due(name + ": get(" + k + ")", x.get(k), rest);
        }
        check.due(name + ": get(" + n + ")", x.get(n), 0);
    }
}
