/** Promises 37 to 40. */
final class OutcomesTest {
    public static void main(String[] arguments) {
        noPolicies();
        twoBoats();
        eightBoats();
        inactive();
        Check.end();
    }

    private static void noPolicies() {
        PaperBoatInsurer x = new PaperBoatInsurer();
        Check.due("outcomes", x.outcomes(), 1L);
        Check.due("greatestLoss", x.greatestLoss(), 0);
        within(x, 0, 1L);
        within(x, Integer.MAX_VALUE, 1L);
        for (int wrong : new int[] {-1, Integer.MIN_VALUE}) {
            Check.refused(x, "outcomesWithin", IllegalArgumentException.class, () -> x.outcomesWithin(wrong));
            Check.refused(x, "outcomesWithinBySets", IllegalArgumentException.class,
                    () -> x.outcomesWithinBySets(wrong));
        }
    }

    private static void twoBoats() {
        PaperBoatInsurer x = new PaperBoatInsurer();
        x.insure(10, 3, 10);
        x.insure(4, 1, 10);
        Check.due("outcomes", x.outcomes(), 64L);
        Check.due("greatestLoss", x.greatestLoss(), 14);
        within(x, 0, 35L);
        within(x, 3, 35L);
        within(x, 4, 40L);
        within(x, 9, 40L);
        within(x, 10, 61L);
        within(x, 13, 61L);
        within(x, 14, 64L);
        x.insure(30, 0, 10);
        x.insure(5, 8, 10);
        Check.due("outcomes", x.outcomes(), 4096L);
        Check.due("a boat without risk is never soaked", x.greatestLoss(), 19);
        within(x, 4, 0L);
        within(x, 5, 35L * 64);
        within(x, 19, 4096L);
    }

    private static void eightBoats() {
        PaperBoatInsurer x = new PaperBoatInsurer();
        for (int i = 0; i < 8; i++) {
            x.insure(30, 8, 10);
        }
        Check.due("outcomes", x.outcomes(), 16777216L);
        Check.due("greatestLoss", x.greatestLoss(), 240);
        within(x, 239, 0L);
        within(x, 240, 16777216L);
        within(x, 241, 16777216L);
    }

    private static void inactive() {
        PaperBoatInsurer x = new PaperBoatInsurer();
        x.insure(10, 3, 10);
        x.insure(4, 2, 11);
        x.passDays(10);
        Check.due("outcomes", x.outcomes(), 8L);
        Check.due("greatestLoss", x.greatestLoss(), 4);
        within(x, 0, 6L);
        within(x, 4, 8L);
        within(x, 240, 8L);
        x.passDays(1);
        Check.due("outcomes", x.outcomes(), 1L);
        Check.due("greatestLoss", x.greatestLoss(), 0);
        within(x, 0, 1L);
    }

    private static void within(PaperBoatInsurer x, int loss, long outcomes) {
        Check.due("outcomesWithin " + loss, x.outcomesWithin(loss), outcomes);
        Check.due("outcomesWithinBySets " + loss, x.outcomesWithinBySets(loss), outcomes);
    }
}
