import java.util.Objects;

/**
 * Counts the answers that are not as due; each test begins with begin(), which sees to it that a call that does not end
 * fails the test, and ends with end(), which gives the exit code.
 */
final class Check {
    private static final int MOST_SHOWN = 30;
    private static final long MOST_MILLISECONDS = 300_000;
    private static int checks = 0;
    private static int wrong = 0;

    static void begin() {
        Thread watch = new Thread(Check::stopLate);
        watch.setDaemon(true);
        watch.start();
    }

    private static void stopLate() {
        try {
            Thread.sleep(MOST_MILLISECONDS);
        } catch (InterruptedException early) {
            return;
        }
        System.out.println("the test does not come to its end");
        Runtime.getRuntime().halt(1);
    }

    static void due(String what, Object got, Object want) {
        checks++;
        if (!Objects.equals(got, want)) {
            wrong++;
            if (wrong <= MOST_SHOWN) {
                System.out.println(what + " answered " + got + ", due is " + want);
            }
        }
    }

    static void holds(String what, boolean got) {
        due(what, got, true);
    }

    static void end() {
        System.out.println(wrong + " of " + checks + " answers are not as due");
        if (wrong > 0 || checks == 0) {
            System.exit(1);
        }
    }
}
