/** Promises 41 to 45. */
final class TriangleTest {
    public static void main(String[] arguments) {
        cells();
        latePayments();
        projections();
        roundings();
        wholeTriangle();
        wrongNumbers();
        Check.end();
    }

    private static void cells() {
        PaperBoatInsurer x = new PaperBoatInsurer();
        x.insure(30, 8, 60);
        x.passDays(9);
        x.claim(0, 'r', 20);
        x.pay(0, 3);
        x.passDays(1);
        x.pay(0, 4);
        x.claim(0, 'r', 10);
        x.pay(1, 5);
        x.passDays(9);
        x.pay(1, 2);
        Check.due("period 0, delay 0", x.paidIn(0, 0), 3);
        Check.due("period 0, delay 1", x.paidIn(0, 1), 4);
        Check.due("period 1, delay 0", x.paidIn(1, 0), 7);
        Check.due("period 1, delay 1", x.paidIn(1, 1), 0);
        Check.due("lastPeriod", x.lastPeriod(), 1);
        x.pay(1, 3);
        x.closeClaim(1);
        Check.due("closed claims count", x.paidIn(1, 0), 10);
    }

    private static void latePayments() {
        PaperBoatInsurer x = new PaperBoatInsurer();
        x.insure(30, 8, 60);
        x.passDays(59);
        x.claim(0, 'r', 20);
        x.pay(0, 3);
        Check.due("lastPeriod", x.lastPeriod(), 5);
        Check.due("the last day that counts", x.paidIn(5, 0), 3);
        x.passDays(1);
        x.pay(0, 4);
        Check.due("lastPeriod stays", x.lastPeriod(), 5);
        int sum = 0;
        for (int period = 0; period <= 5; period++) {
            for (int delay = 0; delay <= 5; delay++) {
                sum += x.paidIn(period, delay);
            }
        }
        Check.due("later payments do not count", sum, 3);
        x.passDays(60);
        Check.due("lastPeriod stays", x.lastPeriod(), 5);
        Check.due("projected", x.projected(5), 3);
    }

    /** Period 0 grows by the half from delay 0 to delay 1, and so does what is projected of period 1. */
    private static void projections() {
        PaperBoatInsurer x = new PaperBoatInsurer();
        x.insure(30, 8, 60);
        x.claim(0, 'r', 15);
        x.pay(0, 10);
        Check.due("without a later period there is no factor", x.projected(0), 10);
        x.passDays(10);
        x.pay(0, 5);
        x.claim(0, 'r', 15);
        x.pay(1, 7);
        project(x, 0, 15);
        project(x, 1, 10);
        Check.due("reserve", x.reserve(), 3);
        x.passDays(10);
        project(x, 0, 15);
        project(x, 1, 7);
        project(x, 2, 0);
        Check.due("reserve", x.reserve(), 0);
    }

    /** The factors are 3/2 for delay 0 and 4/3 for delay 1: 7 grows to 10 and then to 13, not to 14. */
    private static void roundings() {
        PaperBoatInsurer x = new PaperBoatInsurer();
        x.insure(30, 8, 60);
        x.insure(30, 8, 60);
        x.claim(0, 'r', 20);
        x.pay(0, 10);
        x.passDays(10);
        x.pay(0, 5);
        x.claim(1, 'r', 10);
        x.pay(1, 4);
        x.passDays(10);
        x.pay(0, 5);
        x.pay(1, 2);
        x.claim(1, 'r', 20);
        x.pay(2, 7);
        project(x, 0, 20);
        project(x, 1, 8);
        project(x, 2, 13);
        Check.due("reserve", x.reserve(), 8);
    }

    /** Each delay has a factor here; the sums behind them run over ever fewer periods. */
    private static void wholeTriangle() {
        PaperBoatInsurer x = new PaperBoatInsurer();
        for (int period = 0; period <= 5; period++) {
            x.insure(30, 1, 60);
            x.claim(period, 'r', 30);
            for (int claim = 0; claim <= period; claim++) {
                x.pay(claim, claim + 1 + 5 / (period - claim + 1) - (period == 5 ? claim : 0));
            }
            if (period < 5) {
                x.passDays(10);
            }
        }
        Check.due("lastPeriod", x.lastPeriod(), 5);
        int[][] cells = {{6, 3, 2, 2, 2, 1}, {7, 4, 3, 3, 2, 0}, {8, 5, 4, 2, 0, 0}, {9, 6, 2, 0, 0, 0},
            {10, 3, 0, 0, 0, 0}, {6, 0, 0, 0, 0, 0}};
        for (int period = 0; period <= 5; period++) {
            for (int delay = 0; delay <= 5; delay++) {
                Check.due("paidIn " + period + " " + delay, x.paidIn(period, delay), cells[period][delay]);
            }
        }
        project(x, 0, 16);
        project(x, 1, 19 * 16 / 15);
        project(x, 2, 19 * 34 / 30 * 16 / 15);
        project(x, 3, 17 * 49 / 42 * 34 / 30 * 16 / 15);
        project(x, 4, 13 * 59 / 48 * 49 / 42 * 34 / 30 * 16 / 15);
        project(x, 5, 6 * 61 / 40 * 59 / 48 * 49 / 42 * 34 / 30 * 16 / 15);
    }

    private static void wrongNumbers() {
        PaperBoatInsurer x = new PaperBoatInsurer();
        x.passDays(25);
        for (int wrong : new int[] {-1, 6, Integer.MAX_VALUE, Integer.MIN_VALUE}) {
            Check.refused(x, "paidIn", IllegalArgumentException.class, () -> x.paidIn(wrong, 0));
            Check.refused(x, "paidIn", IllegalArgumentException.class, () -> x.paidIn(0, wrong));
        }
        Check.due("a cell that is never filled", x.paidIn(5, 5), 0);
        for (int wrong : new int[] {-1, 3, 5, 6, Integer.MAX_VALUE, Integer.MIN_VALUE}) {
            Check.refused(x, "projected", IllegalArgumentException.class, () -> x.projected(wrong));
            Check.refused(x, "projectedByRecursion", IllegalArgumentException.class,
                    () -> x.projectedByRecursion(wrong));
        }
        project(x, 2, 0);
    }

    private static void project(PaperBoatInsurer x, int period, int coins) {
        Check.due("projected " + period, x.projected(period), coins);
        Check.due("projectedByRecursion " + period, x.projectedByRecursion(period), coins);
    }
}
