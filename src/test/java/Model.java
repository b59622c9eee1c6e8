import java.math.BigInteger;
import java.util.ArrayList;
import java.util.BitSet;
import java.util.Comparator;
import java.util.List;
import java.util.NoSuchElementException;
import java.util.regex.Matcher;
import java.util.regex.Pattern;

/** The document once more, as plainly as the whole Java library allows, for comparison in random runs. */
final class Model {
    private static final String NUMBER = "([0-9][0-9]?)";
    private static final String COMMAND = "(?:insure N ([0-9]) N|end N|treaty N\\+N\\*N N|void ([0-9])|claim N([rgwf])N"
            + "|pay N N|close N|waive N|offer N-N N|wait N)";
    private static final Pattern SCRIPT = Pattern.compile((COMMAND + "(?:;" + COMMAND + ")*").replace("N", NUMBER));

    private record Policy(int id, int sum, int risk, int term, int end, int premium) { }

    private record Treaty(int number, int start, int width, int first) { }

    /** The bearers are the numbers of the treaties that bear the coins, -1 for the insurer. */
    private record Claim(int id, int policy, char cause, List<Integer> bearers) {
        int amount() {
            return bearers.size();
        }

        int borne() {
            return (int) bearers.stream().filter(bearer -> bearer >= 0).count();
        }
    }

    private record Payment(int claim, int lossDay, int day, int coins) { }

    private record Offer(int first, int last, int price) { }

    /** Lists of things that never change; what is withdrawn is forgotten, what is closed stays known. */
    private static final class Facts {
        int day;
        int cash;
        int nextPolicy;
        int nextTreaty;
        int nextClaim;
        List<Policy> policies = new ArrayList<>();
        List<Treaty> treaties = new ArrayList<>();
        List<Claim> open = new ArrayList<>();
        List<Claim> closed = new ArrayList<>();
        List<Integer> lossDays = new ArrayList<>();
        List<Payment> payments = new ArrayList<>();
        List<Offer> offers = new ArrayList<>();

        Facts copy() {
            Facts copy = new Facts();
            copy.day = day;
            copy.cash = cash;
            copy.nextPolicy = nextPolicy;
            copy.nextTreaty = nextTreaty;
            copy.nextClaim = nextClaim;
            copy.policies = new ArrayList<>(policies);
            copy.treaties = new ArrayList<>(treaties);
            copy.open = new ArrayList<>(open);
            copy.closed = new ArrayList<>(closed);
            copy.lossDays = new ArrayList<>(lossDays);
            copy.payments = new ArrayList<>(payments);
            copy.offers = new ArrayList<>(offers);
            return copy;
        }
    }

    private Facts now = new Facts();
    private Facts saved = null;
    private final List<Facts> earlier = new ArrayList<>();
    private boolean isInScript = false;
    private String script = "";
    private String output = "";
    private int badPosition = -1;
    private int badCommand = -1;

    private static void argument(boolean holds) {
        if (!holds) {
            throw new IllegalArgumentException();
        }
    }

    private static void state(boolean holds) {
        if (!holds) {
            throw new IllegalStateException();
        }
    }

    private static void index(int index, int size) {
        if (index < 0 || index >= size) {
            throw new IndexOutOfBoundsException();
        }
    }

    private static boolean within(int number, int least, int most) {
        return least <= number && number <= most;
    }

    private void change() {
        if (!isInScript) {
            earlier.add(now.copy());
            if (earlier.size() > 8) {
                earlier.remove(0);
            }
        }
    }

    private Policy policy(int id) {
        return now.policies.stream().filter(p -> p.id == id).findFirst().orElseThrow();
    }

    private Claim open(int id) {
        return now.open.stream().filter(c -> c.id == id).findFirst().orElseThrow();
    }

    private int paid(Claim claim) {
        return now.payments.stream().filter(p -> p.claim == claim.id).mapToInt(Payment::coins).sum();
    }

    int insure(int sum, int risk, int term) {
        argument(within(sum, 1, 30) && within(risk, 0, 8) && within(term, 1, 60));
        state(now.policies.size() < 8);
        change();
        int premium = (int) Math.max(1, Math.ceil(sum * risk * term / 80.0));
        now.policies.add(new Policy(now.nextPolicy, sum, risk, term, now.day + term, premium));
        now.cash += premium;
        return now.nextPolicy++;
    }

    int endPolicy(int id) {
        Policy policy = policy(id);
        state(now.open.stream().noneMatch(c -> c.policy == id));
        change();
        now.policies.remove(policy);
        int refund = isOn(policy) ? policy.premium * (policy.end - now.day) / policy.term : 0;
        now.cash -= refund;
        return refund;
    }

    int addTreaty(int start, int width, int capacity, int price) {
        argument(within(start, 0, 29) && within(width, 1, 30) && within(capacity, 1, 99) && within(price, 0, 99));
        state(now.treaties.size() < 4);
        change();
        now.treaties.add(new Treaty(now.nextTreaty++, start, width, capacity));
        now.cash -= price;
        return now.treaties.size() - 1;
    }

    int dropTreaty(int treaty) {
        index(treaty, now.treaties.size());
        int capacity = capacityOf(treaty);
        int number = now.treaties.get(treaty).number;
        state(now.open.stream().noneMatch(c -> c.bearers.contains(number)));
        change();
        now.treaties.remove(treaty);
        return capacity;
    }

    /** What is left of the first capacity when the coins of all claims, also of closed ones, are taken off. */
    private int left(Treaty treaty, List<Integer> further) {
        List<Integer> bearers = new ArrayList<>(further);
        now.open.forEach(c -> bearers.addAll(c.bearers));
        now.closed.forEach(c -> bearers.addAll(c.bearers));
        return treaty.first - (int) bearers.stream().filter(b -> b == treaty.number).count();
    }

    private List<Integer> bearers(int amount) {
        List<Integer> bearers = new ArrayList<>();
        for (int coin = 1; coin <= amount; coin++) {
            int bearer = -1;
            for (Treaty treaty : now.treaties) {
                boolean isIn = treaty.start < coin && coin <= treaty.start + treaty.width;
                if (bearer < 0 && isIn && left(treaty, bearers) > 0) {
                    bearer = treaty.number;
                }
            }
            bearers.add(bearer);
        }
        return bearers;
    }

    int claim(int id, char cause, int damage) {
        Policy policy = policy(id);
        argument("rgwf".indexOf(cause) >= 0 && within(damage, 1, 99));
        state(isOn(policy) && now.open.size() < 12);
        int deductible = 0;
        if (cause == 'g') {
            deductible = 2;
        } else if (cause == 'w') {
            deductible = (int) Math.ceil(damage / 10.0);
        } else if (cause == 'f') {
            deductible = (int) Math.floor(damage / 4.0) + 1;
        }
        int amount = Math.min(damage - deductible, sumLeft(id));
        if (amount <= 0) {
            throw new UnsupportedOperationException();
        }
        change();
        now.open.add(new Claim(now.nextClaim, id, cause, bearers(amount)));
        now.lossDays.add(now.day);
        return now.nextClaim++;
    }

    int pay(int id, int coins) {
        Claim claim = open(id);
        argument(within(coins, 1, 99));
        state(coins <= claim.amount() - paid(claim));
        change();
        int before = recovered(id);
        now.payments.add(new Payment(id, now.lossDays.get(id), now.day, coins));
        int gain = recovered(id) - before;
        now.cash += gain - coins;
        return gain;
    }

    int closeClaim(int id) {
        Claim claim = open(id);
        state(paid(claim) == claim.amount());
        change();
        now.open.remove(claim);
        now.closed.add(claim);
        return claim.amount();
    }

    int withdrawClaim(int id) {
        Claim claim = open(id);
        state(paid(claim) == 0);
        change();
        now.open.remove(claim);
        return claim.amount();
    }

    int addOffer(int first, int last, int price) {
        argument(0 <= first && first <= last && last <= 99 && within(price, 1, 50));
        state(now.offers.size() < 8);
        change();
        now.offers.add(new Offer(first, last, price));
        return now.offers.size() - 1;
    }

    int dropOffer(int offer) {
        index(offer, now.offers.size());
        change();
        return now.offers.remove(offer).price;
    }

    int passDays(int days) {
        argument(within(days, 1, 60));
        change();
        now.day += days;
        return now.day;
    }

    int day() {
        return now.day;
    }

    int cash() {
        return now.cash;
    }

    int policyCount() {
        return now.policies.size();
    }

    int policyAt(int position) {
        index(position, now.policies.size());
        return now.policies.get(position).id;
    }

    int sumOf(int id) {
        return policy(id).sum;
    }

    int sumLeft(int id) {
        int left = policy(id).sum;
        List<Claim> all = new ArrayList<>(now.open);
        all.addAll(now.closed);
        for (Claim claim : all) {
            left -= claim.policy == id ? claim.amount() : 0;
        }
        return left;
    }

    int riskOf(int id) {
        return policy(id).risk;
    }

    int premiumOf(int id) {
        return policy(id).premium;
    }

    int endOf(int id) {
        return policy(id).end;
    }

    boolean isActive(int id) {
        return isOn(policy(id));
    }

    private boolean isOn(Policy policy) {
        return now.day < policy.end;
    }

    int claimCount() {
        return now.open.size();
    }

    int claimAt(int position) {
        index(position, now.open.size());
        return now.open.get(position).id;
    }

    int policyOf(int id) {
        return open(id).policy;
    }

    char causeOf(int id) {
        return open(id).cause;
    }

    int amountOf(int id) {
        return open(id).amount();
    }

    int paidOf(int id) {
        return paid(open(id));
    }

    int borneBy(int id, int treaty) {
        Claim claim = open(id);
        index(treaty, now.treaties.size());
        int number = now.treaties.get(treaty).number;
        return (int) claim.bearers.stream().filter(b -> b == number).count();
    }

    int ownPart(int id) {
        return open(id).amount() - open(id).borne();
    }

    int recovered(int id) {
        Claim claim = open(id);
        return (int) Math.floor((double) (claim.borne() * paid(claim)) / claim.amount());
    }

    int treatyCount() {
        return now.treaties.size();
    }

    int startOf(int treaty) {
        index(treaty, now.treaties.size());
        return now.treaties.get(treaty).start;
    }

    int capacityOf(int treaty) {
        index(treaty, now.treaties.size());
        return left(now.treaties.get(treaty), List.of());
    }

    int borne(int amount) {
        argument(within(amount, 1, 30));
        return (int) bearers(amount).stream().filter(b -> b >= 0).count();
    }

    int borneByCoins(int amount) {
        return borne(amount);
    }

    private List<Policy> active() {
        return now.policies.stream().filter(this::isOn).toList();
    }

    long outcomes() {
        return (long) Math.pow(8, active().size());
    }

    long outcomesWithin(int loss) {
        argument(loss >= 0);
        return outcomes(active(), 0, loss);
    }

    private static long outcomes(List<Policy> policies, int from, int loss) {
        if (loss < 0) {
            return 0;
        }
        if (from == policies.size()) {
            return 1;
        }
        Policy policy = policies.get(from);
        return policy.risk * outcomes(policies, from + 1, loss - policy.sum)
                + (8 - policy.risk) * outcomes(policies, from + 1, loss);
    }

    long outcomesWithinBySets(int loss) {
        return outcomesWithin(loss);
    }

    int greatestLoss() {
        int loss = 0;
        while (outcomesWithin(loss) < outcomes()) {
            loss++;
        }
        return loss;
    }

    int paidIn(int period, int delay) {
        argument(within(period, 0, 5) && within(delay, 0, 5));
        int sum = 0;
        for (Payment payment : now.payments) {
            int lossPeriod = payment.lossDay / 10;
            int payPeriod = payment.day / 10;
            if (payPeriod <= 5 && lossPeriod == period && payPeriod - lossPeriod == delay) {
                sum += payment.coins;
            }
        }
        return sum;
    }

    int lastPeriod() {
        return Math.min(5, now.day / 10);
    }

    private int total(int period, int delay) {
        int sum = 0;
        for (int d = 0; d <= delay; d++) {
            sum += paidIn(period, d);
        }
        return sum;
    }

    int projected(int period) {
        argument(within(period, 0, lastPeriod()));
        int from = lastPeriod() - period;
        BigInteger value = BigInteger.valueOf(total(period, from));
        for (int d = from; d <= 4; d++) {
            int above = 0;
            int below = 0;
            for (int p = 0; p + d + 1 <= lastPeriod(); p++) {
                above += total(p, d + 1);
                below += total(p, d);
            }
            if (below != 0) {
                value = value.multiply(BigInteger.valueOf(above)).divide(BigInteger.valueOf(below));
            }
        }
        return value.intValue();
    }

    int projectedByRecursion(int period) {
        return projected(period);
    }

    int reserve() {
        int sum = 0;
        for (int p = 0; p <= lastPeriod(); p++) {
            sum += projected(p) - total(p, 5);
        }
        return sum;
    }

    int offerCount() {
        return now.offers.size();
    }

    int cheapestCover(int first, int last) {
        argument(0 <= first && first <= last && last <= 99);
        int best = Integer.MAX_VALUE;
        for (int set = 0; set < 1 << now.offers.size(); set++) {
            BitSet days = new BitSet();
            int price = 0;
            for (int i = 0; i < now.offers.size(); i++) {
                if ((set & 1 << i) != 0) {
                    days.set(now.offers.get(i).first, now.offers.get(i).last + 1);
                    price += now.offers.get(i).price;
                }
            }
            if (days.nextClearBit(first) > last) {
                best = Math.min(best, price);
            }
        }
        if (best == Integer.MAX_VALUE) {
            throw new NoSuchElementException();
        }
        return best;
    }

    int cheapestCoverBySets(int first, int last) {
        return cheapestCover(first, last);
    }

    int policyByLoad(int rank) {
        List<Policy> sorted = new ArrayList<>(now.policies);
        sorted.sort(Comparator.comparingInt((Policy p) -> -p.sum * p.risk).thenComparingInt(p -> -p.premium)
                .thenComparingInt(p -> p.id));
        if (!within(rank, 0, sorted.size() - 1)) {
            throw new NoSuchElementException();
        }
        return sorted.get(rank).id;
    }

    int claimByUnpaid(int rank) {
        List<Claim> sorted = new ArrayList<>(now.open);
        sorted.sort(Comparator.comparingInt((Claim c) -> paid(c) - c.amount()).thenComparingInt(c -> c.id));
        if (!within(rank, 0, sorted.size() - 1)) {
            throw new NoSuchElementException();
        }
        return sorted.get(rank).id;
    }

    double meanSum() {
        if (now.policies.isEmpty()) {
            throw new ArithmeticException();
        }
        return (double) now.policies.stream().mapToInt(Policy::sum).sum() / (double) now.policies.size();
    }

    float paidShare() {
        if (now.open.isEmpty()) {
            throw new ArithmeticException();
        }
        return (float) now.open.stream().mapToInt(this::paid).sum()
                / (float) now.open.stream().mapToInt(Claim::amount).sum();
    }

    boolean isConsistent() {
        return true;
    }

    int writePolicy(int id) {
        Policy p = policy(id);
        output = "#" + id + ":" + p.sum + "x" + p.risk + "@" + p.end + (isOn(p) ? "" : "!");
        return output.length();
    }

    int writeClaim(int id) {
        Claim c = open(id);
        output = "" + id + c.cause + c.amount() + "/" + paid(c) + "=" + ownPart(id);
        return output.length();
    }

    char outputAt(int index) {
        index(index, output.length());
        return output.charAt(index);
    }

    int type(char character) {
        argument(within(character, 32, 126));
        state(script.length() < 60);
        script += character;
        return script.length();
    }

    int runScript() {
        String text = script;
        script = "";
        if (!SCRIPT.matcher(text).matches()) {
            badPosition = errorPosition(text);
            throw new IllegalArgumentException();
        }
        Facts before = now.copy();
        String[] commands = text.split(";");
        isInScript = true;
        for (int i = 0; i < commands.length; i++) {
            try {
                run(commands[i]);
            } catch (RuntimeException failure) {
                now = before;
                badCommand = i;
                isInScript = false;
                throw new IllegalStateException();
            }
        }
        isInScript = false;
        Facts after = now;
        now = before;
        change();
        now = after;
        return commands.length;
    }

    /** A beginning can still become a script if it is one, or if the matcher ran into its end. */
    private static int errorPosition(String text) {
        for (int length = 1; length <= text.length(); length++) {
            Matcher matcher = SCRIPT.matcher(text.substring(0, length));
            if (!matcher.matches() && !matcher.hitEnd()) {
                return length - 1;
            }
        }
        return text.length();
    }

    private void run(String command) {
        String[] parts = command.replaceAll("^[a-z]+ ", "").split("[^0-9]");
        int[] n = new int[4];
        for (int i = 0; i < parts.length; i++) {
            n[i] = Integer.parseInt(parts[i]);
        }
        switch (command.substring(0, command.indexOf(' '))) {
            case "insure" -> insure(n[0], n[1], n[2]);
            case "end" -> endPolicy(n[0]);
            case "treaty" -> addTreaty(n[0], n[1], n[2], n[3]);
            case "void" -> dropTreaty(n[0]);
            case "claim" -> claim(n[0], command.replaceAll("^claim|[ 0-9]", "").charAt(0), n[1]);
            case "pay" -> pay(n[0], n[1]);
            case "close" -> closeClaim(n[0]);
            case "waive" -> withdrawClaim(n[0]);
            case "offer" -> addOffer(n[0], n[1], n[2]);
            default -> passDays(n[0]);
        }
    }

    int errorPosition() {
        if (badPosition < 0) {
            throw new NoSuchElementException();
        }
        return badPosition;
    }

    int failedCommand() {
        if (badCommand < 0) {
            throw new NoSuchElementException();
        }
        return badCommand;
    }

    int undo() {
        state(!earlier.isEmpty());
        now = earlier.remove(earlier.size() - 1);
        return earlier.size();
    }

    int save() {
        saved = now.copy();
        return now.policies.size();
    }

    int restore() {
        state(saved != null);
        now = saved.copy();
        earlier.clear();
        return now.policies.size();
    }
}
