/** Transforms of rows of numbers over the residues of a prime: there and back, by halves. */
public final class ResidueTransforms {
    private static final int PLACES = 1024;
    private static final int LEAST_PRIME = 3;
    private static final int GREATEST_PRIME = 1000000007;

    private static final int DONE = 0;
    private static final int BAD_SIZE = -1;
    private static final int BAD_PRIME = -2;
    private static final int NOT_DIVIDING = -3;

    private final long[] row;
    private final long[] kept;

    public ResidueTransforms() {
        row = new long[PLACES];
        kept = new long[PLACES];
    }

    public boolean put(int k, long v) {
        if (!isPlace(k)) {
            return false;
        }
        row[k] = v;
        return true;
    }

    public long get(int k) {
        return isPlace(k) ? row[k] : 0L;
    }

    public int transform(int n, int p, boolean back) {
        int refusal = refusalOf(n, p);
        if (refusal != DONE) {
            return refusal;
        }
        long w = rootOfUnity(n, p);
        reduce(n, p);
        reorder(n);
        if (back) {
            joinHalves(n, inverse(w, p), p);
            scale(n, inverse(n, p), p);
        } else {
            joinHalves(n, w, p);
        }
        return DONE;
    }

    public boolean keep(int n) {
        if (!isCount(n)) {
            return false;
        }
        // A place where none is kept counts as 0 in times(), so no count of the kept is needed.
        for (int k = 0; k < PLACES; k++) {
            kept[k] = k < n ? row[k] : 0L;
        }
        return true;
    }

    public int times(int n, int p) {
        if (!isCount(n)) {
            return BAD_SIZE;
        }
        if (!isUsablePrime(p)) {
            return BAD_PRIME;
        }
        for (int k = 0; k < n; k++) {
            row[k] = product(rest(row[k], p), rest(kept[k], p), p);
        }
        return DONE;
    }

    public long root(int n, int p) {
        return refusalOf(n, p) == DONE ? rootOfUnity(n, p) : 0L;
    }

    private static boolean isPlace(int k) {
        return k >= 0 && k < PLACES;
    }

    private static boolean isCount(int n) {
        return n >= 0 && n <= PLACES;
    }

    private static boolean isSize(int n) {
        return n >= 1 && n <= PLACES && (n & (n - 1)) == 0;
    }

    private static boolean isUsablePrime(int p) {
        if (p < LEAST_PRIME || p > GREATEST_PRIME || p % 2 == 0) {
            return false;
        }
        // d stays below 31626, so that d * d does not leave the ints.
        for (int d = 3; d * d <= p; d += 2) {
            if (p % d == 0) {
                return false;
            }
        }
        return true;
    }

    private static int refusalOf(int n, int p) {
        if (!isSize(n)) {
            return BAD_SIZE;
        }
        if (!isUsablePrime(p)) {
            return BAD_PRIME;
        }
        return (p - 1) % n == 0 ? DONE : NOT_DIVIDING;
    }

    /** W of the document, for n and p that are not refused. */
    private static long rootOfUnity(int n, int p) {
        if (n <= 1) {
            return 1L;
        }
        for (int h = 2; h < p; h++) {
            long w = power(h, (p - 1) / n, p);
            if (power(w, n / 2, p) == p - 1) {
                return w;
            }
        }
        // Not reached: every odd prime has an h that is no square, and that one fits.
        return 0L;
    }

    private static long rest(long v, long p) {
        return Math.floorMod(v, p);
    }

    /** For a and b from 0 to p - 1: their product stays far inside the longs. */
    private static long product(long a, long b, long p) {
        return a * b % p;
    }

    private static long power(long base, int exponent, long p) {
        long result = 1L;
        long square = base;
        for (int e = exponent; e > 0; e >>= 1) {
            if ((e & 1) == 1) {
                result = product(result, square, p);
            }
            square = product(square, square, p);
        }
        return result;
    }

    private static long inverse(long a, int p) {
        return power(a, p - 2, p);
    }

    private void reduce(int n, long p) {
        for (int k = 0; k < n; k++) {
            row[k] = rest(row[k], p);
        }
    }

    private void scale(int n, long factor, long p) {
        for (int k = 0; k < n; k++) {
            row[k] = product(row[k], factor, p);
        }
    }

    /** Puts even places before odd ones, at every level of halving, so that halves join in place. */
    private void reorder(int n) {
        for (int k = 0; k < n; k++) {
            int m = mirrored(k, n);
            if (k < m) {
                long held = row[k];
                row[k] = row[m];
                row[m] = held;
            }
        }
    }

    /** The bits of k, as many as a place below n has, in reverse order. */
    private static int mirrored(int k, int n) {
        int result = 0;
        int left = k;
        for (int bit = 1; bit < n; bit <<= 1) {
            result = (result << 1) | (left & 1);
            left >>= 1;
        }
        return result;
    }

    private void joinHalves(int n, long w, int p) {
        for (int half = 1; half < n; half <<= 1) {
            long step = power(w, n / (2 * half), p);
            long factor = 1L;
            for (int j = 0; j < half; j++) {
                joinPairs(n, half, j, factor, p);
                factor = product(factor, step, p);
            }
        }
    }

    /** Joins place j of every two neighbouring halves: all of them have the same factor. */
    private void joinPairs(int n, int half, int j, long factor, long p) {
        for (int k = j; k + half < n; k += 2 * half) {
            long even = row[k];
            long odd = product(row[k + half], factor, p);
            row[k] = (even + odd) % p;
            row[k + half] = (even - odd + p) % p;
        }
    }
}
