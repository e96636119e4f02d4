/** Counts and prints the calls whose answer is not the one that is due. */
final class Check {
    private int wrong = 0;

    void due(String call, long got, long want) {
        if (got != want) {
            wrong++;
            System.out.println(call + " answered " + got + ", due is " + want);
        }
    }

    void due(String call, boolean got, boolean want) {
        due(call, got ? 1L : 0L, want ? 1L : 0L);
    }

    void row(String after, ResidueTransforms x, long... firstNumbers) {
        for (int k = 0; k < firstNumbers.length; k++) {
            due("after " + after + ": get(" + k + ")", x.get(k), firstNumbers[k]);
        }
    }

    void end() {
        System.out.println(wrong == 0 ? "all answers are as due" : wrong + " answers are not as due");
        if (wrong != 0) {
            System.exit(1);
        }
    }
}
