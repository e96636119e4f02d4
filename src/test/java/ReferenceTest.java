import java.util.Random;

/** Runs of mixed calls, each answered both by the class and by the document's words taken one by one. */
public final class ReferenceTest {
    private static final int[] SIZES = {1, 2, 4, 8, 16, 32, 64, 128, 256, 512, 1024};
    private static final int[] PRIMES = {3, 5, 7, 17, 41, 73, 97, 193, 257, 769, 7681, 12289, 40961, 65537, 786433,
        7340033, 167772161, 469762049, 754974721, 998244353, 999999937, 1000000007};
    private static final int[] ODD_INTS = {Integer.MIN_VALUE, -1, 0, 1, 2, 3, 9, 15, 1000, 1023, 1024, 1025, 2048,
        999950885, 1000000008, 1000000009, Integer.MAX_VALUE};
    private static final long[] EDGES = {Long.MIN_VALUE, Long.MAX_VALUE, -1, 0, 1, 1000000006, 1000000007, -1000000007};

    private static final Check check = new Check();

    public static void main(String[] args) {
        everySizeOfEveryPrime();
        everySmallPrime();
        for (int seed = 1; seed <= 60; seed++) {
            mixedRun(new Random(seed), seed);
        }
        check.end();
    }

    private static void everySizeOfEveryPrime() {
        Random random = new Random(7);
        ResidueTransforms x = new ResidueTransforms();
        Reference y = new Reference();
        for (int p : PRIMES) {
            for (int n : SIZES) {
                String name = "(" + n + ", " + p + ")";
                fill(x, y, random, n);
                check.due("root" + name, x.root(n, p), y.root(n, p));
                check.due("transform" + name, x.transform(n, p, false), y.transform(n, p, false));
                compareRows("transform" + name, x, y);
                fill(x, y, random, n);
                check.due("back" + name, x.transform(n, p, true), y.transform(n, p, true));
                compareRows("back" + name, x, y);
            }
        }
    }

    private static void everySmallPrime() {
        ResidueTransforms x = new ResidueTransforms();
        Reference y = new Reference();
        for (int p = -5; p < 20000; p++) {
            for (int n = 1; n <= 1024; n *= 4) {
                check.due("root(" + n + ", " + p + ")", x.root(n, p), y.root(n, p));
            }
            check.due("times(0, " + p + ")", x.times(0, p), y.times(0, p));
        }
        for (int p = 999999000; p < 1000000100; p++) {
            check.due("root(2, " + p + ")", x.root(2, p), y.root(2, p));
            check.due("times(0, " + p + ")", x.times(0, p), y.times(0, p));
        }
    }

    private static void mixedRun(Random random, int seed) {
        ResidueTransforms x = new ResidueTransforms();
        Reference y = new Reference();
        for (int call = 0; call < 200; call++) {
            int n = random.nextInt(6) == 0 ? pick(ODD_INTS, random) : SIZES[random.nextInt(8)];
            int p = random.nextInt(8) == 0 ? pick(ODD_INTS, random) : pick(PRIMES, random);
            boolean back = random.nextBoolean();
            long v = number(random);
            String name = "run " + seed + ", call " + call + ": ";
            switch (random.nextInt(6)) {
                case 0 -> check.due(name + "transform", x.transform(n, p, back), y.transform(n, p, back));
                case 1 -> check.due(name + "keep", x.keep(n - 1), y.keep(n - 1));
                case 2 -> check.due(name + "times", x.times(n - 1, p), y.times(n - 1, p));
                case 3 -> check.due(name + "root", x.root(n, p), y.root(n, p));
                default -> check.due(name + "put", x.put(n - 1, v), y.put(n - 1, v));
            }
            compareRows(name, x, y);
        }
    }

    private static void fill(ResidueTransforms x, Reference y, Random random, int n) {
        for (int k = 0; k < n; k++) {
            long v = number(random);
            x.put(k, v);
            y.put(k, v);
        }
    }

    private static void compareRows(String after, ResidueTransforms x, Reference y) {
        for (int k = -1; k <= 1024; k++) {
            check.due(after + ", get(" + k + ")", x.get(k), y.get(k));
        }
    }

    private static long number(Random random) {
        return random.nextInt(4) == 0 ? EDGES[random.nextInt(EDGES.length)] : random.nextLong();
    }

    private static int pick(int[] from, Random random) {
        return from[random.nextInt(from.length)];
    }
}
