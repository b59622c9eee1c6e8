import java.util.NoSuchElementException;

/** Promises 1 to 3, 12 to 22, 49 and 51. */
final class PoliciesTest {
    public static void main(String[] arguments) {
        newObject();
        premiums();
        wrongPolicies();
        eightPolicies();
        endings();
        days();
        questions();
        loads();
        means();
        Check.end();
    }

    private static void newObject() {
        PaperBoatInsurer x = new PaperBoatInsurer();
        Check.due("first day", x.day(), 0);
        Check.due("first cash", x.cash(), 0);
        Check.due("first policies", x.policyCount(), 0);
        Check.due("first claims", x.claimCount(), 0);
        Check.due("first treaties", x.treatyCount(), 0);
        Check.due("first offers", x.offerCount(), 0);
        Check.due("first outcomes", x.outcomes(), 1L);
        Check.due("first reserve", x.reserve(), 0);
        Check.holds("first consistency", x.isConsistent());
    }

    private static void premiums() {
        int[][] rows = {{20, 4, 30, 30}, {30, 8, 60, 180}, {1, 0, 1, 1}, {30, 0, 60, 1}, {1, 1, 1, 1}, {10, 8, 1, 1},
            {27, 3, 1, 2}, {9, 3, 3, 2}, {16, 5, 2, 2}};
        for (int[] row : rows) {
            PaperBoatInsurer x = new PaperBoatInsurer();
            Check.due("id", x.insure(row[0], row[1], row[2]), 0);
            Check.due("premium of " + row[0] + "x" + row[1] + "x" + row[2], x.premiumOf(0), row[3]);
            Check.due("cash after a premium", x.cash(), row[3]);
            Check.due("next id", x.insure(row[0], row[1], row[2]), 1);
            Check.due("cash after two premiums", x.cash(), 2 * row[3]);
        }
    }

    private static void wrongPolicies() {
        int[][] rows = {{0, 0, 1}, {31, 0, 1}, {-1, 0, 1}, {1, -1, 1}, {1, 9, 1}, {1, 0, 0}, {1, 0, 61},
            {Integer.MIN_VALUE, 8, 60}, {Integer.MAX_VALUE, 8, 60}, {1, 0, Integer.MAX_VALUE}};
        PaperBoatInsurer x = new PaperBoatInsurer();
        for (int[] row : rows) {
            Check.refused(x, "insure of wrong numbers", IllegalArgumentException.class,
                    () -> x.insure(row[0], row[1], row[2]));
        }
        Check.due("id after refusals", x.insure(1, 8, 60), 0);
    }

    private static void eightPolicies() {
        PaperBoatInsurer x = new PaperBoatInsurer();
        for (int i = 0; i < 8; i++) {
            Check.due("id", x.insure(i + 1, i, 10 + i), i);
        }
        Check.refused(x, "the ninth policy", IllegalStateException.class, () -> x.insure(1, 0, 1));
        Check.refused(x, "a wrong ninth policy", IllegalArgumentException.class, () -> x.insure(0, 0, 1));
        x.endPolicy(3);
        Check.due("id after an ending", x.insure(9, 8, 18), 8);
        int[] ids = {0, 1, 2, 4, 5, 6, 7, 8};
        for (int i = 0; i < 8; i++) {
            Check.due("policyAt", x.policyAt(i), ids[i]);
            Check.due("sum behind the gap", x.sumOf(ids[i]), ids[i] + 1);
            Check.due("risk behind the gap", x.riskOf(ids[i]), ids[i]);
            Check.due("end behind the gap", x.endOf(ids[i]), ids[i] + 10);
        }
        Check.due("premium behind the gap", x.premiumOf(7), 12);
        Check.due("paid back behind the gap", x.endPolicy(7), 12);
        Check.due("nothing is claimed of a new policy", x.sumLeft(8), 9);
    }

    private static void endings() {
        PaperBoatInsurer x = new PaperBoatInsurer();
        x.insure(20, 4, 30);
        x.insure(7, 5, 13);
        x.insure(30, 8, 1);
        Check.due("premium", x.premiumOf(1), 6);
        x.passDays(4);
        int cash = x.cash();
        Check.due("paid back, rounded down", x.endPolicy(1), 6 * 9 / 13);
        Check.due("cash after paying back", x.cash(), cash - 4);
        Check.refused(x, "ending twice", NoSuchElementException.class, () -> x.endPolicy(1));
        Check.refused(x, "ending no policy", NoSuchElementException.class, () -> x.endPolicy(-1));
        Check.due("paid back of an inactive policy", x.endPolicy(2), 0);
        Check.due("cash after an inactive one", x.cash(), cash - 4);
        x.claim(0, 'r', 5);
        Check.refused(x, "ending with a claim", IllegalStateException.class, () -> x.endPolicy(0));
        x.pay(0, 5);
        x.closeClaim(0);
        x.passDays(25);
        Check.due("paid back on the last day", x.endPolicy(0), 1);
        Check.due("no policies", x.policyCount(), 0);
    }

    private static void days() {
        PaperBoatInsurer x = new PaperBoatInsurer();
        x.insure(5, 2, 60);
        Check.due("a day", x.passDays(1), 1);
        Check.due("sixty days", x.passDays(60), 61);
        Check.due("day", x.day(), 61);
        for (int wrong : new int[] {0, -1, 61, Integer.MIN_VALUE, Integer.MAX_VALUE}) {
            Check.refused(x, "passDays of " + wrong, IllegalArgumentException.class, () -> x.passDays(wrong));
        }
        Check.due("end of a later policy", x.endOf(x.insure(1, 1, 9)), 70);
    }

    private static void questions() {
        PaperBoatInsurer x = new PaperBoatInsurer();
        x.insure(12, 3, 10);
        x.insure(25, 0, 11);
        Check.due("sumOf", x.sumOf(1), 25);
        Check.due("riskOf", x.riskOf(0), 3);
        Check.due("endOf", x.endOf(0), 10);
        x.claim(0, 'r', 5);
        Check.due("sumOf with a claim", x.sumOf(0), 12);
        Check.due("sumLeft with a claim", x.sumLeft(0), 7);
        Check.due("sumLeft of another", x.sumLeft(1), 25);
        x.passDays(9);
        Check.due("active on the day before the end", x.isActive(0), true);
        x.passDays(1);
        Check.due("active on the end", x.isActive(0), false);
        Check.due("active before the end", x.isActive(1), true);
        for (int wrong : new int[] {-1, 2, 8, Integer.MAX_VALUE, Integer.MIN_VALUE}) {
            Check.refused(x, "sumOf", NoSuchElementException.class, () -> x.sumOf(wrong));
            Check.refused(x, "sumLeft", NoSuchElementException.class, () -> x.sumLeft(wrong));
            Check.refused(x, "riskOf", NoSuchElementException.class, () -> x.riskOf(wrong));
            Check.refused(x, "premiumOf", NoSuchElementException.class, () -> x.premiumOf(wrong));
            Check.refused(x, "endOf", NoSuchElementException.class, () -> x.endOf(wrong));
            Check.refused(x, "isActive", NoSuchElementException.class, () -> x.isActive(wrong));
            Check.refused(x, "policyAt", IndexOutOfBoundsException.class, () -> x.policyAt(wrong));
        }
    }

    private static void loads() {
        PaperBoatInsurer x = new PaperBoatInsurer();
        Check.refused(x, "rank of nothing", NoSuchElementException.class, () -> x.policyByLoad(0));
        x.insure(10, 2, 10); // load 20, premium 3
        x.insure(20, 1, 50); // load 20, premium 13
        x.insure(5, 4, 10);  // load 20, premium 3
        x.insure(3, 7, 1);   // load 21, premium 1
        x.insure(30, 0, 60); // load 0
        int[] order = {3, 1, 0, 2, 4};
        for (int i = 0; i < order.length; i++) {
            Check.due("policyByLoad " + i, x.policyByLoad(i), order[i]);
        }
        for (int wrong : new int[] {-1, 5, Integer.MAX_VALUE, Integer.MIN_VALUE}) {
            Check.refused(x, "policyByLoad", NoSuchElementException.class, () -> x.policyByLoad(wrong));
        }
    }

    private static void means() {
        PaperBoatInsurer x = new PaperBoatInsurer();
        Check.refused(x, "mean of nothing", ArithmeticException.class, () -> x.meanSum());
        x.insure(10, 2, 10);
        Check.due("mean of one", x.meanSum(), 10.0);
        x.insure(11, 2, 10);
        x.insure(1, 2, 10);
        Check.due("mean of three", x.meanSum(), 22.0 / 3.0);
        x.passDays(20);
        Check.due("mean of inactive policies", x.meanSum(), 22.0 / 3.0);
    }
}
