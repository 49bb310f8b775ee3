/** Counts the answers that are not as due, prints them, and ends a test. */
final class Check {
    private static final long MOST_MILLIS = 300_000;

    private int asked = 0;
    private int wrong = 0;

    static {
        // a call that fails to end must fail its test, too, not hold up all of them
        Thread watch = new Thread(Check::endLate);
        watch.setDaemon(true);
        watch.start();
    }

    private static void endLate() {
        try {
            Thread.sleep(MOST_MILLIS);
        } catch (InterruptedException e) {
            return;
        }
        System.out.println("a test has not ended after " + MOST_MILLIS / 1000 + " seconds");
        Runtime.getRuntime().halt(1);
    }

    void due(String call, long got, long want) {
        asked++;
        if (got != want) {
            wrong++;
            System.out.println(call + " answered " + got + ", due is " + want);
        }
    }

    void holds(String what, boolean holds) {
        asked++;
        if (!holds) {
            wrong++;
            System.out.println("does not hold: " + what);
        }
    }

    int asked() {
        return asked;
    }

    boolean isClean() {
        return wrong == 0;
    }

    /** Ends the program with exit code 1 if an answer was wrong, or if nothing was asked. */
    void end() {
        System.out.println(asked + " answers, " + wrong + " not as due");
        if (wrong != 0 || asked == 0) {
            System.exit(1);
        }
    }
}
