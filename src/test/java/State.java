/** All that can be asked of an insurer without changing it, as one text. */
final class State {
    static String of(PaperBoatInsurer x) {
        StringBuilder text = new StringBuilder();
        text.append("day ").append(x.day()).append(" cash ").append(x.cash());
        text.append(" consistent ").append(x.isConsistent()).append('\n');
        addPolicies(text, x);
        addTreaties(text, x);
        addClaims(text, x);
        addTriangle(text, x);
        addOffers(text, x);
        return text.toString();
    }

    private static void addPolicies(StringBuilder text, PaperBoatInsurer x) {
        for (int i = 0; i < x.policyCount(); i++) {
            int id = x.policyAt(i);
            text.append("policy ").append(id).append(' ').append(x.sumOf(id)).append(' ').append(x.sumLeft(id));
            text.append(' ').append(x.riskOf(id)).append(' ').append(x.premiumOf(id)).append(' ').append(x.endOf(id));
            text.append(' ').append(x.isActive(id)).append(' ').append(x.policyByLoad(i)).append('\n');
        }
        text.append("outcomes ").append(x.outcomes()).append(" loss ").append(x.greatestLoss());
        for (int loss = 0; loss < 250; loss += 7) {
            text.append(' ').append(x.outcomesWithin(loss)).append(' ').append(x.outcomesWithinBySets(loss));
        }
        text.append(x.policyCount() > 0 ? " mean " + x.meanSum() : "").append('\n');
    }

    private static void addTreaties(StringBuilder text, PaperBoatInsurer x) {
        for (int i = 0; i < x.treatyCount(); i++) {
            text.append("treaty ").append(x.startOf(i)).append(' ').append(x.capacityOf(i)).append('\n');
        }
        for (int amount = 1; amount <= 30; amount++) {
            text.append(' ').append(x.borne(amount)).append(' ').append(x.borneByCoins(amount));
        }
        text.append('\n');
    }

    private static void addClaims(StringBuilder text, PaperBoatInsurer x) {
        for (int i = 0; i < x.claimCount(); i++) {
            int id = x.claimAt(i);
            text.append("claim ").append(id).append(' ').append(x.policyOf(id)).append(' ').append(x.causeOf(id));
            text.append(' ').append(x.amountOf(id)).append(' ').append(x.paidOf(id)).append(' ').append(x.ownPart(id));
            text.append(' ').append(x.recovered(id)).append(' ').append(x.claimByUnpaid(i));
            for (int treaty = 0; treaty < x.treatyCount(); treaty++) {
                text.append(" by ").append(x.borneBy(id, treaty));
            }
            text.append('\n');
        }
        text.append(x.claimCount() > 0 ? "share " + x.paidShare() : "").append('\n');
    }

    private static void addTriangle(StringBuilder text, PaperBoatInsurer x) {
        for (int period = 0; period <= 5; period++) {
            for (int delay = 0; delay <= 5; delay++) {
                text.append(' ').append(x.paidIn(period, delay));
            }
        }
        text.append(" last ").append(x.lastPeriod()).append(" reserve ").append(x.reserve());
        for (int period = 0; period <= x.lastPeriod(); period++) {
            text.append(' ').append(x.projected(period)).append(' ').append(x.projectedByRecursion(period));
        }
        text.append('\n');
    }

    private static void addOffers(StringBuilder text, PaperBoatInsurer x) {
        text.append("offers ").append(x.offerCount());
        for (int first = 0; first < 100; first += 9) {
            for (int last = first; last < 100; last += 9) {
                text.append(' ').append(price(x, first, last)).append(' ').append(priceBySets(x, first, last));
            }
        }
        text.append('\n');
    }

    private static int price(PaperBoatInsurer x, int first, int last) {
        try {
            return x.cheapestCover(first, last);
        } catch (java.util.NoSuchElementException none) {
            return -1;
        }
    }

    private static int priceBySets(PaperBoatInsurer x, int first, int last) {
        try {
            return x.cheapestCoverBySets(first, last);
        } catch (java.util.NoSuchElementException none) {
            return -1;
        }
    }
}
