import java.math.BigInteger;

/** The document's words taken one by one, without halves and with numbers that cannot overflow. */
final class Reference {
    private final long[] row = new long[1024];
    private long[] kept = new long[0];

    boolean put(int k, long v) {
        if (k < 0 || k > 1023) {
            return false;
        }
        row[k] = v;
        return true;
    }

    long get(int k) {
        return k < 0 || k > 1023 ? 0 : row[k];
    }

    int transform(int n, int p, boolean back) {
        int refusal = refusal(n, p);
        if (refusal != 0) {
            return refusal;
        }
        BigInteger prime = BigInteger.valueOf(p);
        BigInteger w = BigInteger.valueOf(root(n, p));
        BigInteger factor = BigInteger.ONE;
        if (back) {
            w = w.modInverse(prime);
            factor = BigInteger.valueOf(n).modInverse(prime);
        }
        BigInteger[] powers = new BigInteger[n];
        for (int j = 0; j < n; j++) {
            powers[j] = w.modPow(BigInteger.valueOf(j), prime);
        }
        long[] result = new long[n];
        for (int k = 0; k < n; k++) {
            BigInteger sum = BigInteger.ZERO;
            for (int j = 0; j < n; j++) {
                sum = sum.add(BigInteger.valueOf(row[j]).multiply(powers[j * k % n]));
            }
            result[k] = sum.multiply(factor).mod(prime).longValueExact();
        }
        System.arraycopy(result, 0, row, 0, n);
        return 0;
    }

    boolean keep(int n) {
        if (n < 0 || n > 1024) {
            return false;
        }
        kept = java.util.Arrays.copyOf(row, n);
        return true;
    }

    int times(int n, int p) {
        if (n < 0 || n > 1024) {
            return -1;
        }
        if (!isPrimeInRange(p)) {
            return -2;
        }
        for (int k = 0; k < n; k++) {
            BigInteger other = BigInteger.valueOf(k < kept.length ? kept[k] : 0);
            row[k] = BigInteger.valueOf(row[k]).multiply(other).mod(BigInteger.valueOf(p)).longValueExact();
        }
        return 0;
    }

    long root(int n, int p) {
        if (refusal(n, p) != 0) {
            return 0;
        }
        if (n == 1) {
            return 1;
        }
        BigInteger prime = BigInteger.valueOf(p);
        for (BigInteger h = BigInteger.TWO; ; h = h.add(BigInteger.ONE)) {
            BigInteger w = h.modPow(BigInteger.valueOf((p - 1) / n), prime);
            if (w.modPow(BigInteger.valueOf(n / 2), prime).intValueExact() == p - 1) {
                return w.longValueExact();
            }
        }
    }

    private static int refusal(int n, int p) {
        if (n < 1 || n > 1024 || Integer.bitCount(n) != 1) {
            return -1;
        }
        if (!isPrimeInRange(p)) {
            return -2;
        }
        return (p - 1) % n == 0 ? 0 : -3;
    }

    private static boolean isPrimeInRange(int p) {
        return p >= 3 && p <= 1000000007 && BigInteger.valueOf(p).isProbablePrime(60);
    }
}
