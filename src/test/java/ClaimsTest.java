import java.util.NoSuchElementException;

/** Promises 6 to 9, 18, 23 to 28, 50 and 52. */
final class ClaimsTest {
    public static void main(String[] arguments) {
        amounts();
        wrongClaims();
        twelveClaims();
        payments();
        closings();
        withdrawals();
        questions();
        unpaid();
        shares();
        Check.end();
    }

    private static void amounts() {
        Object[][] rows = {{'r', 1, 1}, {'r', 30, 30}, {'r', 99, 30}, {'g', 3, 1}, {'g', 32, 30}, {'g', 31, 29},
            {'w', 2, 1}, {'w', 10, 9}, {'w', 11, 9}, {'w', 20, 18}, {'w', 21, 18}, {'f', 3, 2}, {'f', 2, 1},
            {'f', 4, 2}, {'f', 5, 3}, {'f', 7, 5}, {'f', 8, 5}, {'f', 39, 29}, {'f', 99, 30}};
        for (Object[] row : rows) {
            PaperBoatInsurer x = new PaperBoatInsurer();
            x.insure(30, 1, 10);
            Check.due("id", x.claim(0, (Character) row[0], (Integer) row[1]), 0);
            Check.due("amount of " + row[0] + row[1], x.amountOf(0), row[2]);
            Check.due("left of " + row[0] + row[1], x.sumLeft(0), 30 - (Integer) row[2]);
            Check.due("cause", x.causeOf(0), row[0]);
        }
    }

    private static void wrongClaims() {
        PaperBoatInsurer x = new PaperBoatInsurer();
        x.insure(10, 1, 5);
        Check.refused(x, "no policy", NoSuchElementException.class, () -> x.claim(1, 'x', 0));
        for (char wrong : new char[] {'R', 'x', 'q', 's', 0, ' ', (char) 65535}) {
            Check.refused(x, "cause", IllegalArgumentException.class, () -> x.claim(0, wrong, 9));
        }
        for (int wrong : new int[] {0, -1, 100, Integer.MAX_VALUE, Integer.MIN_VALUE}) {
            Check.refused(x, "damage " + wrong, IllegalArgumentException.class, () -> x.claim(0, 'r', wrong));
        }
        Check.refused(x, "gutter", UnsupportedOperationException.class, () -> x.claim(0, 'g', 2));
        Check.refused(x, "gutter", UnsupportedOperationException.class, () -> x.claim(0, 'g', 1));
        Check.refused(x, "wave", UnsupportedOperationException.class, () -> x.claim(0, 'w', 1));
        Check.refused(x, "fire", UnsupportedOperationException.class, () -> x.claim(0, 'f', 1));
        Check.due("first id after refusals", x.claim(0, 'r', 99), 0);
        Check.refused(x, "nothing left", UnsupportedOperationException.class, () -> x.claim(0, 'r', 1));
        x.passDays(5);
        Check.refused(x, "inactive", IllegalStateException.class, () -> x.claim(0, 'g', 1));
        Check.refused(x, "inactive and wrong", IllegalArgumentException.class, () -> x.claim(0, 'r', 0));
    }

    private static void twelveClaims() {
        PaperBoatInsurer x = new PaperBoatInsurer();
        x.insure(30, 1, 50);
        for (int i = 0; i < 12; i++) {
            Check.due("id", x.claim(0, 'r', 2), i);
        }
        Check.refused(x, "thirteenth claim", IllegalStateException.class, () -> x.claim(0, 'g', 1));
        x.withdrawClaim(4);
        Check.due("id after a withdrawal", x.claim(0, 'r', 3), 12);
        Check.due("last claim", x.claimAt(11), 12);
        Check.due("claim behind the gap", x.claimAt(4), 5);
        Check.due("first claim", x.claimAt(0), 0);
    }

    private static void payments() {
        PaperBoatInsurer x = new PaperBoatInsurer();
        x.insure(20, 8, 40);
        x.addTreaty(5, 10, 8, 6);
        x.addTreaty(0, 8, 20, 3);
        x.claim(0, 'w', 25);
        int cash = x.cash();
        Check.due("recovered by the first part", x.pay(0, 1), 0);
        Check.due("recovered by the second part", x.pay(0, 1), 1);
        Check.due("cash", x.cash(), cash - 1);
        Check.due("paid", x.paidOf(0), 2);
        Check.due("recovered", x.recovered(0), 1);
        for (int wrong : new int[] {0, -1, 100, Integer.MAX_VALUE, Integer.MIN_VALUE}) {
            Check.refused(x, "pay " + wrong, IllegalArgumentException.class, () -> x.pay(0, wrong));
        }
        Check.refused(x, "pay too much", IllegalStateException.class, () -> x.pay(0, 19));
        Check.refused(x, "pay no claim", NoSuchElementException.class, () -> x.pay(1, 0));
        Check.due("recovered by the rest", x.pay(0, 18), 12);
        Check.due("cash after all", x.cash(), cash - 20 + 13);
        Check.refused(x, "pay more than all", IllegalStateException.class, () -> x.pay(0, 1));
    }

    private static void closings() {
        PaperBoatInsurer x = new PaperBoatInsurer();
        x.insure(20, 8, 40);
        x.insure(3, 8, 40);
        x.addTreaty(0, 9, 10, 0);
        x.claim(0, 'r', 8);
        x.claim(1, 'g', 5);
        x.pay(1, 1);
        Check.refused(x, "close unpaid", IllegalStateException.class, () -> x.closeClaim(0));
        x.pay(0, 7);
        Check.refused(x, "close partly paid", IllegalStateException.class, () -> x.closeClaim(0));
        x.pay(0, 1);
        Check.due("close", x.closeClaim(0), 8);
        Check.refused(x, "close twice", NoSuchElementException.class, () -> x.closeClaim(0));
        Check.due("claims left", x.claimCount(), 1);
        Check.due("the claim left", x.claimAt(0), 1);
        Check.due("its amount", x.amountOf(1), 3);
        Check.due("its policy", x.policyOf(1), 1);
        Check.due("its cause", x.causeOf(1), 'g');
        Check.due("what was paid of it", x.paidOf(1), 1);
        Check.due("what a treaty bears of it", x.borneBy(1, 0), 2);
        Check.due("capacities do not come back", x.capacityOf(0), 0);
        Check.due("closed ones count", x.sumLeft(0), 12);
        Check.due("the next one", x.claim(0, 'r', 99), 2);
        Check.due("its amount", x.amountOf(2), 12);
        Check.due("nothing was paid of it", x.paidOf(2), 0);
        Check.due("nothing is borne of it", x.borneBy(2, 0), 0);
    }

    private static void withdrawals() {
        PaperBoatInsurer x = new PaperBoatInsurer();
        x.insure(20, 8, 40);
        x.addTreaty(2, 3, 2, 0);
        x.addTreaty(0, 30, 9, 0);
        x.claim(0, 'r', 8);
        Check.due("capacity", x.capacityOf(0), 0);
        Check.due("capacity", x.capacityOf(1), 3);
        int cash = x.cash();
        Check.due("withdraw", x.withdrawClaim(0), 8);
        Check.due("capacity again", x.capacityOf(0), 2);
        Check.due("capacity again", x.capacityOf(1), 9);
        Check.due("sum left again", x.sumLeft(0), 20);
        Check.due("cash as before", x.cash(), cash);
        Check.refused(x, "withdraw twice", NoSuchElementException.class, () -> x.withdrawClaim(0));
        x.claim(0, 'r', 8);
        x.pay(1, 1);
        Check.refused(x, "withdraw paid", IllegalStateException.class, () -> x.withdrawClaim(1));
    }

    private static void questions() {
        PaperBoatInsurer x = new PaperBoatInsurer();
        x.insure(20, 8, 40);
        x.insure(21, 8, 40);
        x.claim(1, 'g', 9);
        x.claim(0, 'f', 9);
        Check.due("claimCount", x.claimCount(), 2);
        Check.due("policyOf", x.policyOf(0), 1);
        Check.due("policyOf", x.policyOf(1), 0);
        Check.due("causeOf", x.causeOf(1), 'f');
        Check.due("amountOf", x.amountOf(0), 7);
        Check.due("paidOf", x.paidOf(0), 0);
        for (int wrong : new int[] {-1, 2, 12, Integer.MAX_VALUE, Integer.MIN_VALUE}) {
            Check.refused(x, "policyOf", NoSuchElementException.class, () -> x.policyOf(wrong));
            Check.refused(x, "causeOf", NoSuchElementException.class, () -> x.causeOf(wrong));
            Check.refused(x, "amountOf", NoSuchElementException.class, () -> x.amountOf(wrong));
            Check.refused(x, "paidOf", NoSuchElementException.class, () -> x.paidOf(wrong));
            Check.refused(x, "ownPart", NoSuchElementException.class, () -> x.ownPart(wrong));
            Check.refused(x, "recovered", NoSuchElementException.class, () -> x.recovered(wrong));
            Check.refused(x, "claimAt", IndexOutOfBoundsException.class, () -> x.claimAt(wrong));
        }
    }

    private static void unpaid() {
        PaperBoatInsurer x = new PaperBoatInsurer();
        Check.refused(x, "rank of nothing", NoSuchElementException.class, () -> x.claimByUnpaid(0));
        x.insure(30, 8, 40);
        x.claim(0, 'r', 4);
        x.claim(0, 'r', 9);
        x.claim(0, 'r', 4);
        x.claim(0, 'r', 3);
        x.pay(1, 8);
        int[] order = {0, 2, 3, 1};
        for (int i = 0; i < order.length; i++) {
            Check.due("claimByUnpaid " + i, x.claimByUnpaid(i), order[i]);
        }
        for (int wrong : new int[] {-1, 4, Integer.MAX_VALUE, Integer.MIN_VALUE}) {
            Check.refused(x, "claimByUnpaid", NoSuchElementException.class, () -> x.claimByUnpaid(wrong));
        }
    }

    private static void shares() {
        PaperBoatInsurer x = new PaperBoatInsurer();
        Check.refused(x, "share of nothing", ArithmeticException.class, () -> x.paidShare());
        x.insure(30, 8, 40);
        Check.refused(x, "share without claims", ArithmeticException.class, () -> x.paidShare());
        x.claim(0, 'r', 4);
        Check.due("share of an unpaid claim", x.paidShare(), 0.0f);
        x.claim(0, 'r', 3);
        x.pay(1, 3);
        Check.due("share", x.paidShare(), 3.0f / 7.0f);
        x.closeClaim(1);
        Check.due("share without the closed one", x.paidShare(), 0.0f);
    }
}
