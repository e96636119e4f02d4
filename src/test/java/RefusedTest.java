/** 'A call that is refused changes nothing': behind each, the whole row and all the kept are what they were. */
public final class RefusedTest {
    private static final Check check = new Check();

    public static void main(String[] args) {
        putWithoutSuchANumber();
        getWithoutSuchANumber();
        transformOfNoSuchSize();
        transformByNoSuchPrime();
        transformWhereSizeDoesNotDivide();
        keepOfNoSuchCount();
        timesOfNoSuchCount();
        timesByNoSuchPrime();
        rootWhereTransformIsRefused();
        check.end();
    }

    private static void putWithoutSuchANumber() {
        for (int k : Inputs.NO_PLACES) {
            Marked.unchangedBy(check, "put(" + k + ", 77)", x -> x.put(k, 77) ? 1 : 0, 0);
            Marked.unchangedBy(check, "put(" + k + ", 0)", x -> x.put(k, 0) ? 1 : 0, 0);
        }
    }

    private static void getWithoutSuchANumber() {
        for (int k : Inputs.NO_PLACES) {
            Marked.unchangedBy(check, "get(" + k + ")", x -> x.get(k), 0);
        }
    }

    private static void transformOfNoSuchSize() {
        for (int n : Inputs.NO_SIZES) {
            // 4096 divides 12289 - 1, so that its size alone is wrong with 2048 and 4096.
            transformIsRefused(n, 12289, -1);
        }
    }

    private static void transformByNoSuchPrime() {
        for (int p : Inputs.OUTSIDE) {
            transformIsRefused(1, p, -2);
            transformIsRefused(4, p, -2);
        }
        for (int p : Inputs.NO_PRIMES) {
            transformIsRefused(1, p, -2);
            transformIsRefused(4, p, -2);
        }
    }

    private static void transformWhereSizeDoesNotDivide() {
        for (int[] pair : Inputs.GREATEST_SIZES) {
            for (int n = 2 * pair[1]; n <= 1024; n *= 2) {
                transformIsRefused(n, pair[0], -3);
            }
        }
    }

    private static void transformIsRefused(int n, int p, int answer) {
        String name = "transform(" + n + ", " + p + ", ";
        Marked.unchangedBy(check, name + "false)", x -> x.transform(n, p, false), answer);
        Marked.unchangedBy(check, name + "true)", x -> x.transform(n, p, true), answer);
    }

    private static void keepOfNoSuchCount() {
        for (int n : Inputs.NO_COUNTS) {
            Marked.unchangedBy(check, "keep(" + n + ")", x -> x.keep(n) ? 1 : 0, 0);
        }
    }

    private static void timesOfNoSuchCount() {
        for (int n : Inputs.NO_COUNTS) {
            timesIsRefused(n, 7, -1);
            timesIsRefused(n, Inputs.GREATEST, -1);
        }
    }

    private static void timesByNoSuchPrime() {
        for (int n : new int[] {0, 1, 1024}) {
            for (int p : Inputs.OUTSIDE) {
                timesIsRefused(n, p, -2);
            }
            for (int p : Inputs.NO_PRIMES) {
                timesIsRefused(n, p, -2);
            }
        }
    }

    private static void timesIsRefused(int n, int p, int answer) {
        Marked.unchangedBy(check, "times(" + n + ", " + p + ")", x -> x.times(n, p), answer);
    }

    private static void rootWhereTransformIsRefused() {
        for (int n : Inputs.NO_SIZES) {
            rootIsRefused(n, 12289);
        }
        for (int p : Inputs.OUTSIDE) {
            rootIsRefused(1, p);
            rootIsRefused(2, p);
        }
        for (int p : Inputs.NO_PRIMES) {
            rootIsRefused(1, p);
            rootIsRefused(2, p);
        }
        for (int[] pair : Inputs.GREATEST_SIZES) {
            for (int n = 2 * pair[1]; n <= 1024; n *= 2) {
                rootIsRefused(n, pair[0]);
            }
        }
    }

    private static void rootIsRefused(int n, int p) {
        Marked.unchangedBy(check, "root(" + n + ", " + p + ")", x -> x.root(n, p), 0);
    }
}
