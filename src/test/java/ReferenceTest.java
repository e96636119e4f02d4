import java.util.Random;

/** Runs of mixed calls, each answered both by the class and by the document's words taken one by one. */
public final class ReferenceTest {
    private static final int[] PRIMES = {3, 5, 7, 17, 41, 73, 97, 193, 257, 769, 7681, 12289, 40961, 65537, 786433,
        7340033, 167772161, 469762049, 754974721, 998244353, 999999937, 1000000007};
    private static final int[] ODD_INTS = {Integer.MIN_VALUE, -1, 0, 1, 2, 3, 9, 15, 1000, 1023, 1024, 1025, 2048,
        999950885, 1000000008, 1000000009, Integer.MAX_VALUE};
    private static final long[] EDGES = {Long.MIN_VALUE, Long.MAX_VALUE, -1, 0, 1, 1000000006, 1000000007, -1000000007};

    private static final Check check = new Check();

    public static void main(String[] args) {
        everySizeOfEveryPrime();
        rootsOfManyPrimes();
        for (int seed = 1; seed <= 200; seed++) {
            mixedRun(new Random(seed), seed);
        }
        check.end();
    }

    private static void everySizeOfEveryPrime() {
        Random random = new Random(7);
        for (int p : PRIMES) {
            for (int n : Inputs.SIZES) {
                for (boolean back : new boolean[] {false, true}) {
                    String name = "transform(" + n + ", " + p + ", " + back + ")";
                    Subject x = new Subject();
                    Reference y = new Reference();
                    fill(x, y, random, n);
                    check.due(name, x.transform(n, p, back), y.transform(n, p, back));
                    compare(name, x, y, random);
                }
            }
        }
    }

    private static void rootsOfManyPrimes() {
        Reference y = new Reference();
        for (int p = -5; p < 20000; p++) {
            Subject x = new Subject();
            for (int n = 1; n <= 1024; n *= 4) {
                check.due("root(" + n + ", " + p + ")", x.root(n, p), y.root(n, p));
            }
        }
        for (int p = 999999000; p < 1000000100; p++) {
            Subject x = new Subject();
            check.due("root(2, " + p + ")", x.root(2, p), y.root(2, p));
            check.due("root(8, " + p + ")", x.root(8, p), y.root(8, p));
        }
    }

    private static void mixedRun(Random random, int seed) {
        Subject x = new Subject();
        Reference y = new Reference();
        for (int call = 0; call < 80; call++) {
            int n = random.nextInt(6) == 0 ? pick(ODD_INTS, random) : Inputs.SIZES[random.nextInt(8)];
            int p = random.nextInt(8) == 0 ? pick(ODD_INTS, random) : pick(PRIMES, random);
            boolean back = random.nextBoolean();
            long v = number(random);
            String name = "run " + seed + ", call " + call + ": ";
            switch (random.nextInt(6)) {
                case 0 -> check.due(name + "transform", x.transform(n, p, back), y.transform(n, p, back));
                case 1 -> check.due(name + "keep", x.keep(n - 1), y.keep(n - 1));
                case 2 -> check.due(name + "times", x.times(n - 1, p), y.times(n - 1, p));
                case 3 -> check.due(name + "root", x.root(n, p), y.root(n, p));
                default -> check.due(name + "put", x.put(n - 1, v), y.put(n - 1, v));
            }
            compareAt(name, x, y, 0);
            compareAt(name, x, y, n - 1);
            compareAt(name, x, y, random.nextInt(256));
        }
        compare("run " + seed, x, y, random);
    }

    /** Numbers for the first and the last of n places and for at most some 250 between them. */
    private static void fill(Subject x, Reference y, Random random, int n) {
        for (int k = 0; k < n; k += 1 + random.nextInt(1 + n / 128)) {
            long v = number(random);
            x.put(k, v);
            y.put(k, v);
        }
        x.put(n - 1, -n);
        y.put(n - 1, -n);
    }

    /** The first and the last places, and from there on as many as the object's calls allow. */
    private static void compare(String after, Subject x, Reference y, Random random) {
        for (int k = -1; k < 64; k++) {
            compareAt(after, x, y, k);
        }
        compareAt(after, x, y, 1023);
        compareAt(after, x, y, 1024);
        while (x.calls() < Subject.MOST_CALLS) {
            compareAt(after, x, y, random.nextInt(1024));
        }
    }

    private static void compareAt(String after, Subject x, Reference y, int k) {
        check.due(after + ", get(" + k + ")", x.get(k), y.get(k));
    }

    private static long number(Random random) {
        return random.nextInt(4) == 0 ? EDGES[random.nextInt(EDGES.length)] : random.nextLong();
    }

    private static int pick(int[] from, Random random) {
        return from[random.nextInt(from.length)];
    }
}
