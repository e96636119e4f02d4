/** Counts and prints the calls whose answer is not the one that is due. */
final class Check {
    private static final long MOST_MILLIS = 180_000L;

    private int wrong = 0;
    private volatile String last = "none";

    Check() {
        // A call that does not end is a fault too, and must not hold up the tests for hours.
        Thread watch = new Thread(this::stopLate);
        watch.setDaemon(true);
        watch.start();
    }

    void due(String call, long got, long want) {
        last = call;
        if (got != want) {
            wrong++;
            System.out.println(call + " answered " + got + ", due is " + want);
        }
    }

    void due(String call, boolean got, boolean want) {
        due(call, got ? 1L : 0L, want ? 1L : 0L);
    }

    void row(String after, Subject x, long... firstNumbers) {
        for (int k = 0; k < firstNumbers.length; k++) {
            due("after " + after + ": get(" + k + ")", x.get(k), firstNumbers[k]);
        }
    }

    void end() {
        System.out.println(wrong == 0 ? "all answers are as due" : wrong + " answers are not as due");
        if (wrong != 0) {
            System.exit(1);
        }
    }

    private void stopLate() {
        try {
            Thread.sleep(MOST_MILLIS);
        } catch (InterruptedException e) {
            return;
        }
        System.out.println("not ended after " + MOST_MILLIS + " ms; the last call answered was " + last);
        System.out.flush();
        Runtime.getRuntime().halt(1);
    }
}
