/** The inputs at the edges that the document names: the last that are taken, the first that are refused. */
final class Inputs {
    static final int MIN = Integer.MIN_VALUE;
    static final int MAX = Integer.MAX_VALUE;
    static final int GREATEST = 1000000007;

    static final int[] SIZES = {1, 2, 4, 8, 16, 32, 64, 128, 256, 512, 1024};
    static final int[] NO_SIZES = {MIN, MIN + 1, -1024, -4, -2, -1, 0, 3, 5, 6, 7, 9, 12, 15, 17, 31, 33, 63, 65, 127,
        129, 255, 257, 511, 513, 1000, 1022, 1023, 1025, 1026, 1536, 2048, 4096, 1 << 30, MAX};

    static final int[] NO_PLACES = {MIN, -1024, -2, -1, 1024, 1025, 2047, 2048, MAX};
    static final int[] NO_COUNTS = {MIN, -1024, -2, -1, 1025, 1026, 2048, MAX};

    /** The least three and the greatest two that are taken, and some between. */
    static final int[] PRIMES = {3, 5, 7, 11, 13, 17, 257, 7681, 12289, 65537, 998244353, 999999937, GREATEST};

    /** Outside 3 .. 1000000007 on both sides, primes among them. */
    static final int[] OUTSIDE = {MIN, -GREATEST, -17, -5, -3, -2, -1, 0, 1, 2, 1000000008, 1000000009, 1000000021,
        MAX};

    /** Inside 3 .. 1000000007: the least and the greatest, squares and products of primes, false primes. */
    static final int[] NO_PRIMES = {4, 6, 8, 9, 15, 21, 25, 35, 49, 341, 561, 1024, 1025, 1729, 2047, 25326001,
        161304001, 960946321, 31607 * 31607, 31601 * 31607, 31607 * 31627, 3 * 333333329, 999999938, 999999999,
        1000000000, 1000000004, 1000000005, 1000000006};

    /** Pairs of a prime and the greatest power of two up to 1024 that divides it less 1. */
    static final int[][] GREATEST_SIZES = {{3, 2}, {5, 4}, {7, 2}, {17, 16}, {41, 8}, {73, 8}, {97, 32}, {193, 64},
        {257, 256}, {641, 128}, {7681, 512}, {12289, 1024}, {13313, 1024}, {65537, 1024}, {998244353, 1024},
        {999995393, 1024}, {999999937, 64}, {GREATEST, 2}};

    private Inputs() {
    }
}
