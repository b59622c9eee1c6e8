import java.util.Arrays;
import java.util.NoSuchElementException;

/** An insurer of paper boats; what each method promises stands in the document of the project. */
public final class PaperBoatInsurer {
    private static final int MOST_POLICIES = 8;
    private static final int MOST_SUM = 30;
    private static final int MOST_RISK = 8;
    private static final int MOST_TERM = 60;
    private static final int MOST_LOSS = 240;
    /** The greatest int, since the document sets no bound above; the language leaves no Integer.MAX_VALUE. */
    private static final int MOST_ASKED_LOSS = 2147483647;
    private static final int RAINS = 8;
    private static final int PREMIUM_DIVISOR = 80;
    private static final int MOST_CLAIMS = 12;
    private static final int MOST_DAMAGE = 99;
    private static final int MOST_PART = 99;
    private static final int MOST_TREATIES = 4;
    private static final int MOST_START = 29;
    private static final int MOST_WIDTH = 30;
    private static final int MOST_CAPACITY = 99;
    private static final int MOST_TREATY_PRICE = 99;
    private static final int MOST_OFFERS = 8;
    private static final int MOST_OFFER_DAY = 99;
    private static final int MOST_OFFER_PRICE = 50;
    private static final int NO_COVER = 1000;
    private static final int LAST_CHECKED_DAY = 9;
    private static final int MOST_DAYS = 60;
    private static final int DAYS_OF_PERIOD = 10;
    private static final int PERIODS = 6;
    private static final int LAST_DELAY = 5;
    private static final int MOST_CHANGES = 8;
    private static final int HISTORY_SLOTS = 9;
    private static final int MOST_CHARACTERS = 60;
    private static final int MOST_COMMANDS = 60;
    private static final int MOST_NUMBERS = 4;
    private static final int FIRST_CHARACTER = 32;
    private static final int LAST_CHARACTER = 126;
    private static final int NONE = -1;

    private final Book book;
    private final Book snapshot;
    private final History history;
    private final Script script;
    private final StringBuilder output;
    private boolean isSaved;
    private int badPosition;
    private int badCommand;

    public PaperBoatInsurer() {
        book = new Book();
        snapshot = new Book();
        history = new History();
        script = new Script();
        output = new StringBuilder();
        isSaved = false;
        badPosition = NONE;
        badCommand = NONE;
    }

    public int insure(int sum, int risk, int term) throws IllegalArgumentException, IllegalStateException {
        history.prepare(book);
        return changed(book.makePolicy(sum, risk, term));
    }

    public int endPolicy(int policy) throws NoSuchElementException, IllegalStateException {
        history.prepare(book);
        return changed(book.removePolicy(policy));
    }

    public int addTreaty(int start, int width, int capacity, int price)
            throws IllegalArgumentException, IllegalStateException {
        history.prepare(book);
        return changed(book.makeTreaty(start, width, capacity, price));
    }

    public int dropTreaty(int treaty) throws IndexOutOfBoundsException, IllegalStateException {
        history.prepare(book);
        return changed(book.removeTreaty(treaty));
    }

    public int claim(int policy, char cause, int damage) throws NoSuchElementException, IllegalArgumentException,
            IllegalStateException, UnsupportedOperationException {
        history.prepare(book);
        return changed(book.makeClaim(policy, cause, damage));
    }

    public int pay(int claim, int coins)
            throws NoSuchElementException, IllegalArgumentException, IllegalStateException {
        history.prepare(book);
        return changed(book.payPart(claim, coins));
    }

    public int closeClaim(int claim) throws NoSuchElementException, IllegalStateException {
        history.prepare(book);
        return changed(book.removePaidClaim(claim));
    }

    public int withdrawClaim(int claim) throws NoSuchElementException, IllegalStateException {
        history.prepare(book);
        return changed(book.removeUnpaidClaim(claim));
    }

    public int addOffer(int first, int last, int price) throws IllegalArgumentException, IllegalStateException {
        history.prepare(book);
        return changed(book.offers.add(first, last, price));
    }

    public int dropOffer(int offer) throws IndexOutOfBoundsException {
        history.prepare(book);
        return changed(book.offers.remove(offer));
    }

    public int passDays(int days) throws IllegalArgumentException {
        history.prepare(book);
        return changed(book.advance(days));
    }

    public int day() {
        return book.day;
    }

    public int cash() {
        return book.cash;
    }

    public int policyCount() {
        return book.policies.count;
    }

    public int policyAt(int position) throws IndexOutOfBoundsException {
        return book.policies.ids[checkedIndex(position, book.policies.count)];
    }

    public int sumOf(int policy) throws NoSuchElementException {
        return book.policies.sums[book.policies.placeOf(policy)];
    }

    public int sumLeft(int policy) throws NoSuchElementException {
        return book.policies.leftAt(book.policies.placeOf(policy));
    }

    public int riskOf(int policy) throws NoSuchElementException {
        return book.policies.risks[book.policies.placeOf(policy)];
    }

    public int premiumOf(int policy) throws NoSuchElementException {
        return book.policies.premiums[book.policies.placeOf(policy)];
    }

    public int endOf(int policy) throws NoSuchElementException {
        return book.policies.ends[book.policies.placeOf(policy)];
    }

    public boolean isActive(int policy) throws NoSuchElementException {
        return book.policies.isActiveAt(book.policies.placeOf(policy), book.day);
    }

    public int claimCount() {
        return book.claims.count;
    }

    public int claimAt(int position) throws IndexOutOfBoundsException {
        return book.claims.ids[checkedIndex(position, book.claims.count)];
    }

    public int policyOf(int claim) throws NoSuchElementException {
        return book.claims.policies[book.claims.placeOf(claim)];
    }

    public char causeOf(int claim) throws NoSuchElementException {
        return book.claims.causes[book.claims.placeOf(claim)];
    }

    public int amountOf(int claim) throws NoSuchElementException {
        return book.claims.amounts[book.claims.placeOf(claim)];
    }

    public int paidOf(int claim) throws NoSuchElementException {
        return book.claims.paid[book.claims.placeOf(claim)];
    }

    public int borneBy(int claim, int treaty) throws NoSuchElementException, IndexOutOfBoundsException {
        int place = book.claims.placeOf(claim);
        return book.claims.parts[place][checkedIndex(treaty, book.treaties.count)];
    }

    public int ownPart(int claim) throws NoSuchElementException {
        return book.claims.ownPartAt(book.claims.placeOf(claim));
    }

    public int recovered(int claim) throws NoSuchElementException {
        return book.claims.recoveredAt(book.claims.placeOf(claim));
    }

    public int treatyCount() {
        return book.treaties.count;
    }

    public int startOf(int treaty) throws IndexOutOfBoundsException {
        return book.treaties.starts[checkedIndex(treaty, book.treaties.count)];
    }

    public int capacityOf(int treaty) throws IndexOutOfBoundsException {
        return book.treaties.capacities[checkedIndex(treaty, book.treaties.count)];
    }

    public int borne(int amount) throws IllegalArgumentException {
        return book.treaties.countByRuns(checkedNumber(amount, 1, MOST_SUM));
    }

    public int borneByCoins(int amount) throws IllegalArgumentException {
        return book.treaties.countByCoins(checkedNumber(amount, 1, MOST_SUM));
    }

    public long outcomes() {
        return book.policies.countOutcomes(book.day);
    }

    public long outcomesWithin(int loss) throws IllegalArgumentException {
        return book.policies.countByTable(checkedNumber(loss, 0, MOST_ASKED_LOSS), book.day);
    }

    public long outcomesWithinBySets(int loss) throws IllegalArgumentException {
        return book.policies.countBySets(checkedNumber(loss, 0, MOST_ASKED_LOSS), book.day);
    }

    public int greatestLoss() {
        return book.policies.mostLoss(book.day);
    }

    public int paidIn(int period, int delay) throws IllegalArgumentException {
        int row = checkedNumber(period, 0, PERIODS - 1);
        return book.triangle.cells[row][checkedNumber(delay, 0, LAST_DELAY)];
    }

    public int lastPeriod() {
        return book.latestPeriod();
    }

    public int projected(int period) throws IllegalArgumentException {
        int last = book.latestPeriod();
        return book.triangle.projectByDelays(checkedNumber(period, 0, last), last);
    }

    public int projectedByRecursion(int period) throws IllegalArgumentException {
        int last = book.latestPeriod();
        return book.triangle.projectBackwards(checkedNumber(period, 0, last), last);
    }

    public int reserve() {
        return book.triangle.sumOfUnpaid(book.latestPeriod());
    }

    public int offerCount() {
        return book.offers.count;
    }

    public int cheapestCover(int first, int last) throws IllegalArgumentException, NoSuchElementException {
        int lastDay = checkedNumber(last, 0, MOST_OFFER_DAY);
        return coverPrice(book.offers.cheapestByDays(checkedNumber(first, 0, lastDay), lastDay));
    }

    public int cheapestCoverBySets(int first, int last) throws IllegalArgumentException, NoSuchElementException {
        int lastDay = checkedNumber(last, 0, MOST_OFFER_DAY);
        return coverPrice(book.offers.cheapestBySets(checkedNumber(first, 0, lastDay), lastDay));
    }

    public int policyByLoad(int rank) throws NoSuchElementException {
        return book.policies.idAtRank(rank);
    }

    public int claimByUnpaid(int rank) throws NoSuchElementException {
        return book.claims.idAtRank(rank);
    }

    public double meanSum() throws ArithmeticException {
        if (book.policies.count == 0) {
            throw new ArithmeticException("there are no policies");
        }
        return (double) sumOfRow(book.policies.sums, book.policies.count) / (double) book.policies.count;
    }

    public float paidShare() throws ArithmeticException {
        int amounts = sumOfRow(book.claims.amounts, book.claims.count);
        if (amounts == 0) {
            throw new ArithmeticException("there are no claims");
        }
        return (float) sumOfRow(book.claims.paid, book.claims.count) / (float) amounts;
    }

    public boolean isConsistent() {
        return book.isBalanced() && book.keepsCapacities() && book.layersAgree() && book.outcomesAgree()
                && book.projectionsAgree() && book.coversAgree();
    }

    public int writePolicy(int policy) throws NoSuchElementException {
        int place = book.policies.placeOf(policy);
        output.setLength(0);
        output.append('#').append(policy);
        output.append(':').append(book.policies.sums[place]);
        output.append('x').append(book.policies.risks[place]);
        output.append('@').append(book.policies.ends[place]);
        if (!book.policies.isActiveAt(place, book.day)) {
            output.append('!');
        }
        return output.length();
    }

    public int writeClaim(int claim) throws NoSuchElementException {
        int place = book.claims.placeOf(claim);
        output.setLength(0);
        output.append(claim).append(book.claims.causes[place]);
        output.append(book.claims.amounts[place]);
        output.append('/').append(book.claims.paid[place]);
        output.append('=').append(book.claims.ownPartAt(place));
        return output.length();
    }

    public char outputAt(int index) throws IndexOutOfBoundsException {
        return output.charAt(checkedIndex(index, output.length()));
    }

    public int type(char character) throws IllegalArgumentException, IllegalStateException {
        return script.append((char) checkedNumber(character, FIRST_CHARACTER, LAST_CHARACTER));
    }

    public int runScript() throws IllegalArgumentException, IllegalStateException {
        int commands = script.countCommands();
        if (commands < 0) {
            badPosition = script.position;
            script.empty();
            throw new IllegalArgumentException("the script does not have the required form");
        }
        history.prepare(book);
        int failed = script.firstFailure(book, commands);
        script.empty();
        if (failed >= 0) {
            history.bringBack(book);
            badCommand = failed;
            throw new IllegalStateException("a command failed");
        }
        return changed(commands);
    }

    public int errorPosition() throws NoSuchElementException {
        return known(badPosition);
    }

    public int failedCommand() throws NoSuchElementException {
        return known(badCommand);
    }

    public int undo() throws IllegalStateException {
        return history.stepBack(book);
    }

    public int save() {
        snapshot.copyFrom(book);
        isSaved = true;
        return book.policies.count;
    }

    public int restore() throws IllegalStateException {
        if (!isSaved) {
            throw new IllegalStateException("there is no snapshot");
        }
        book.copyFrom(snapshot);
        history.forget();
        return book.policies.count;
    }

    private int changed(int answer) {
        history.keep();
        return answer;
    }

    private static int coverPrice(int price) {
        if (price >= NO_COVER) {
            throw new NoSuchElementException("there is no cover");
        }
        return price;
    }

    private static int known(int index) {
        if (index < 0) {
            throw new NoSuchElementException("there was no such script");
        }
        return index;
    }

    private static int checkedNumber(int number, int least, int most) {
        if (number < least || number > most) {
            throw new IllegalArgumentException("a number is out of its range");
        }
        return number;
    }

    private static int checkedIndex(int index, int count) {
        if (index < 0 || index >= count) {
            throw new IndexOutOfBoundsException("there is no such index");
        }
        return index;
    }

    private static int find(int[] ids, int count, int id) {
        for (int i = 0; i < count; i++) {
            if (ids[i] == id) {
                return i;
            }
        }
        return NONE;
    }

    private static int freePlace(int count, int limit) {
        if (count < 0 || count >= limit) {
            throw new IllegalStateException("there is no room for one more");
        }
        return count;
    }

    private static void copyRow(int[] from, int[] to) {
        System.arraycopy(from, 0, to, 0, Math.min(from.length, to.length));
    }

    private static void closeGap(int[] row, int index) {
        for (int i = index; i >= 0 && i < row.length - 1; i++) {
            row[i] = row[i + 1];
        }
    }

    private static int sumOfRow(int[] row, int count) {
        int sum = 0;
        for (int i = 0; i < count; i++) {
            sum += row[i];
        }
        return sum;
    }

    private static boolean isCause(char cause) {
        return cause == 'r' || cause == 'g' || cause == 'w' || cause == 'f';
    }

    /** Things that keep the ids they got, in ascending order, and that can be ranked. */
    private abstract static class Register {
        final int[] ids;
        int count;
        int nextId;

        Register(int[] ids) {
            this.ids = ids;
        }

        abstract boolean isAhead(int one, int other);

        void copyIds(Register other) {
            copyRow(other.ids, ids);
            count = other.count;
            nextId = other.nextId;
        }

        int placeOf(int id) {
            int place = find(ids, count, id);
            if (place < 0) {
                throw new NoSuchElementException("there is no such id");
            }
            return place;
        }

        int takePlace() {
            int place = freePlace(count, ids.length);
            ids[place] = nextId;
            nextId++;
            count++;
            return place;
        }

        void removeId(int place) {
            closeGap(ids, place);
            count--;
        }

        int idAtRank(int rank) {
            for (int i = 0; i < count; i++) {
                if (countAhead(i) == rank) {
                    return ids[i];
                }
            }
            throw new NoSuchElementException("there is no such rank");
        }

        private int countAhead(int place) {
            int ahead = 0;
            for (int i = 0; i < count; i++) {
                if (isAhead(i, place)) {
                    ahead++;
                }
            }
            return ahead;
        }
    }

    private static final class Policies extends Register {
        final int[] sums = new int[MOST_POLICIES];
        final int[] risks = new int[MOST_POLICIES];
        final int[] terms = new int[MOST_POLICIES];
        final int[] ends = new int[MOST_POLICIES];
        final int[] premiums = new int[MOST_POLICIES];
        final int[] claimed = new int[MOST_POLICIES];
        final long[] ways = new long[MOST_LOSS + 1];

        Policies() {
            super(new int[MOST_POLICIES]);
        }

        void copyFrom(Policies other) {
            copyIds(other);
            copyRow(other.sums, sums);
            copyRow(other.risks, risks);
            copyRow(other.terms, terms);
            copyRow(other.ends, ends);
            copyRow(other.premiums, premiums);
            copyRow(other.claimed, claimed);
        }

        int add(int sum, int risk, int term, int day) {
            checkedNumber(sum, 1, MOST_SUM);
            checkedNumber(risk, 0, MOST_RISK);
            checkedNumber(term, 1, MOST_TERM);
            int place = takePlace();
            sums[place] = sum;
            risks[place] = risk;
            terms[place] = term;
            ends[place] = day + term;
            premiums[place] = Math.max(1, (sum * risk * term + PREMIUM_DIVISOR - 1) / PREMIUM_DIVISOR);
            claimed[place] = 0;
            return place;
        }

        void remove(int place) {
            removeId(place);
            closeGap(sums, place);
            closeGap(risks, place);
            closeGap(terms, place);
            closeGap(ends, place);
            closeGap(premiums, place);
            closeGap(claimed, place);
        }

        boolean isActiveAt(int place, int day) {
            return day < ends[place];
        }

        int leftAt(int place) {
            return sums[place] - claimed[place];
        }

        int refundAt(int place, int day) {
            if (!isActiveAt(place, day) || terms[place] < 1) {
                return 0;
            }
            return premiums[place] * (ends[place] - day) / terms[place];
        }

        boolean isAhead(int one, int other) {
            int load = sums[one] * risks[one];
            int otherLoad = sums[other] * risks[other];
            if (load != otherLoad) {
                return load > otherLoad;
            }
            if (premiums[one] != premiums[other]) {
                return premiums[one] > premiums[other];
            }
            return ids[one] < ids[other];
        }

        long countOutcomes(int day) {
            long outcomes = 1;
            for (int i = 0; i < count; i++) {
                if (isActiveAt(i, day)) {
                    outcomes *= RAINS;
                }
            }
            return outcomes;
        }

        /** A boat without risk is never soaked, so its sum is in no loss. */
        int mostLoss(int day) {
            int loss = 0;
            for (int i = 0; i < count; i++) {
                if (isActiveAt(i, day) && risks[i] > 0) {
                    loss += sums[i];
                }
            }
            return loss;
        }

        long countByTable(int most, int day) {
            Arrays.fill(ways, 0L);
            ways[0] = 1;
            for (int i = 0; i < count; i++) {
                if (isActiveAt(i, day)) {
                    addBoat(sums[i], risks[i]);
                }
            }
            long outcomes = 0;
            for (int loss = 0; loss <= Math.min(most, MOST_LOSS); loss++) {
                outcomes += ways[loss];
            }
            return outcomes;
        }

        /** Goes downwards, since each entry needs the smaller losses as they were without this boat. */
        private void addBoat(int sum, int risk) {
            for (int loss = MOST_LOSS; loss >= 0; loss--) {
                long soaked = loss >= sum ? ways[loss - sum] * risk : 0;
                ways[loss] = ways[loss] * (RAINS - risk) + soaked;
            }
        }

        long countBySets(int most, int day) {
            long outcomes = 0;
            for (int set = 0; set < 1 << count; set++) {
                if (lossOfSet(set) <= most) {
                    outcomes += waysOfSet(set, day);
                }
            }
            return outcomes;
        }

        private int lossOfSet(int set) {
            int loss = 0;
            for (int i = 0; i < count; i++) {
                if ((set >> i & 1) == 1) {
                    loss += sums[i];
                }
            }
            return loss;
        }

        /** A policy that is not active has no rains: it is never soaked, and there is one way for that. */
        private long waysOfSet(int set, int day) {
            long product = 1;
            for (int i = 0; i < count; i++) {
                boolean isSoaked = (set >> i & 1) == 1;
                if (isActiveAt(i, day)) {
                    product *= isSoaked ? risks[i] : RAINS - risks[i];
                } else if (isSoaked) {
                    return 0;
                }
            }
            return product;
        }
    }

    private static final class Claims extends Register {
        final int[] policies = new int[MOST_CLAIMS];
        final char[] causes = new char[MOST_CLAIMS];
        final int[] amounts = new int[MOST_CLAIMS];
        final int[] paid = new int[MOST_CLAIMS];
        final int[] lossDays = new int[MOST_CLAIMS];
        final int[][] parts = new int[MOST_CLAIMS][MOST_TREATIES];

        Claims() {
            super(new int[MOST_CLAIMS]);
        }

        void copyFrom(Claims other) {
            copyIds(other);
            copyRow(other.policies, policies);
            copyRow(other.amounts, amounts);
            copyRow(other.paid, paid);
            copyRow(other.lossDays, lossDays);
            for (int i = 0; i < MOST_CLAIMS; i++) {
                causes[i] = other.causes[i];
                copyRow(other.parts[i], parts[i]);
            }
        }

        int add(int policy, char cause, int amount, int day) {
            int place = takePlace();
            policies[place] = policy;
            causes[place] = cause;
            amounts[place] = amount;
            paid[place] = 0;
            lossDays[place] = day;
            Arrays.fill(parts[place], 0);
            return place;
        }

        void remove(int place) {
            removeId(place);
            closeGap(policies, place);
            closeGap(amounts, place);
            closeGap(paid, place);
            closeGap(lossDays, place);
            for (int i = place; i < MOST_CLAIMS - 1; i++) {
                causes[i] = causes[i + 1];
                copyRow(parts[i + 1], parts[i]);
            }
        }

        int unpaidAt(int place) {
            return amounts[place] - paid[place];
        }

        int ownPartAt(int place) {
            return amounts[place] - sumOfRow(parts[place], MOST_TREATIES);
        }

        int recoveredAt(int place) {
            if (amounts[place] < 1) {
                return 0;
            }
            return sumOfRow(parts[place], MOST_TREATIES) * paid[place] / amounts[place];
        }

        int coinsOf(int treaty) {
            int coins = 0;
            for (int i = 0; i < count; i++) {
                coins += parts[i][treaty];
            }
            return coins;
        }

        void forgetTreaty(int treaty) {
            for (int i = 0; i < count; i++) {
                closeGap(parts[i], treaty);
                parts[i][MOST_TREATIES - 1] = 0;
            }
        }

        boolean isAhead(int one, int other) {
            if (unpaidAt(one) != unpaidAt(other)) {
                return unpaidAt(one) > unpaidAt(other);
            }
            return ids[one] < ids[other];
        }
    }

    private static final class Treaties {
        final int[] starts = new int[MOST_TREATIES];
        final int[] widths = new int[MOST_TREATIES];
        final int[] capacities = new int[MOST_TREATIES];
        final int[] firstCapacities = new int[MOST_TREATIES];
        final int[] left = new int[MOST_TREATIES];
        final int[] coins = new int[MOST_TREATIES];
        int count;

        void copyFrom(Treaties other) {
            copyRow(other.starts, starts);
            copyRow(other.widths, widths);
            copyRow(other.capacities, capacities);
            copyRow(other.firstCapacities, firstCapacities);
            count = other.count;
        }

        int add(int start, int width, int capacity) {
            checkedNumber(start, 0, MOST_START);
            checkedNumber(width, 1, MOST_WIDTH);
            checkedNumber(capacity, 1, MOST_CAPACITY);
            int place = freePlace(count, MOST_TREATIES);
            starts[place] = start;
            widths[place] = width;
            capacities[place] = capacity;
            firstCapacities[place] = capacity;
            count++;
            return place;
        }

        void remove(int treaty) {
            closeGap(starts, treaty);
            closeGap(widths, treaty);
            closeGap(capacities, treaty);
            closeGap(firstCapacities, treaty);
            count--;
        }

        void giveBack(int[] parts) {
            for (int i = 0; i < count; i++) {
                capacities[i] += parts[i];
            }
        }

        int countByCoins(int amount) {
            copyRow(capacities, left);
            Arrays.fill(coins, 0);
            bearCoins(amount, left, coins);
            return sumOfRow(coins, MOST_TREATIES);
        }

        /** Takes coins out of the capacities that are given, so that a claim can also be tried on a copy. */
        void bearCoins(int amount, int[] capacitiesLeft, int[] parts) {
            for (int coin = 1; coin <= amount; coin++) {
                int treaty = treatyOf(coin, capacitiesLeft);
                if (treaty >= 0) {
                    capacitiesLeft[treaty]--;
                    parts[treaty]++;
                }
            }
        }

        private int treatyOf(int coin, int[] capacitiesLeft) {
            for (int i = 0; i < count; i++) {
                if (coin > starts[i] && coin <= starts[i] + widths[i] && capacitiesLeft[i] > 0) {
                    return i;
                }
            }
            return NONE;
        }

        int countByRuns(int amount) {
            copyRow(capacities, left);
            int borneCoins = 0;
            int coin = 1;
            while (coin <= amount) {
                int treaty = treatyOf(coin, left);
                int end = endOfRun(coin, treaty, amount);
                if (treaty >= 0) {
                    left[treaty] -= end - coin + 1;
                    borneCoins += end - coin + 1;
                }
                coin = Math.max(coin, end) + 1;
            }
            return borneCoins;
        }

        /** A run also ends where the layer of a treaty begins that would have borne its coins before. */
        private int endOfRun(int coin, int treaty, int amount) {
            int end = amount;
            int rivals = count;
            if (treaty >= 0) {
                end = Math.min(end, starts[treaty] + widths[treaty]);
                end = Math.min(end, coin + left[treaty] - 1);
                rivals = treaty;
            }
            for (int i = 0; i < rivals; i++) {
                if (left[i] > 0 && starts[i] >= coin) {
                    end = Math.min(end, starts[i]);
                }
            }
            return end;
        }
    }

    private static final class Triangle {
        final int[][] cells = new int[PERIODS][PERIODS];

        void copyFrom(Triangle other) {
            for (int i = 0; i < PERIODS; i++) {
                copyRow(other.cells[i], cells[i]);
            }
        }

        void add(int lossDay, int day, int coins) {
            int period = lossDay / DAYS_OF_PERIOD;
            int delay = day / DAYS_OF_PERIOD - period;
            if (period >= 0 && delay >= 0 && period + delay < PERIODS) {
                cells[period][delay] += coins;
            }
        }

        int projectByDelays(int period, int last) {
            long value = totalOf(period, last - period);
            for (int delay = last - period; delay < LAST_DELAY; delay++) {
                value = timesFactor(value, delay, last);
            }
            return (int) value;
        }

        int projectBackwards(int period, int last) {
            return (int) valueAt(this, period, LAST_DELAY, last);
        }

        /** The recursion is as deep as the delay at most, which is at most 5. */
        private static long valueAt(Triangle triangle, int period, int delay, int last) {
            if (delay <= 0 || delay <= last - period) {
                return triangle.totalOf(period, last - period);
            }
            return triangle.timesFactor(valueAt(triangle, period, delay - 1, last), delay - 1, last);
        }

        /** Multiplies before it divides, in long, so that only the result is rounded. */
        private long timesFactor(long value, int delay, int last) {
            int periods = last - delay;
            long divisor = totalOfPeriods(periods, delay);
            if (divisor < 1) {
                return value;
            }
            return value * totalOfPeriods(periods, delay + 1) / divisor;
        }

        private long totalOfPeriods(int periods, int delay) {
            long total = 0;
            for (int period = 0; period < Math.min(periods, PERIODS); period++) {
                total += totalOf(period, delay);
            }
            return total;
        }

        private int totalOf(int period, int delay) {
            int total = 0;
            for (int i = 0; i <= delay && i < PERIODS; i++) {
                total += cells[period][i];
            }
            return total;
        }

        int sumOfUnpaid(int last) {
            int sum = 0;
            for (int period = 0; period <= Math.min(last, PERIODS - 1); period++) {
                sum += projectByDelays(period, last) - totalOf(period, LAST_DELAY);
            }
            return sum;
        }
    }

    private static final class Offers {
        final int[] firsts = new int[MOST_OFFERS];
        final int[] lasts = new int[MOST_OFFERS];
        final int[] prices = new int[MOST_OFFERS];
        final int[] pricesUntil = new int[MOST_OFFER_DAY + 1];
        int count;

        void copyFrom(Offers other) {
            copyRow(other.firsts, firsts);
            copyRow(other.lasts, lasts);
            copyRow(other.prices, prices);
            count = other.count;
        }

        int add(int first, int last, int price) {
            checkedNumber(last, 0, MOST_OFFER_DAY);
            checkedNumber(first, 0, last);
            checkedNumber(price, 1, MOST_OFFER_PRICE);
            int place = freePlace(count, MOST_OFFERS);
            firsts[place] = first;
            lasts[place] = last;
            prices[place] = price;
            count++;
            return place;
        }

        int remove(int offer) {
            int price = prices[checkedIndex(offer, count)];
            closeGap(firsts, offer);
            closeGap(lasts, offer);
            closeGap(prices, offer);
            count--;
            return price;
        }

        /** Returns the price, or NO_COVER. */
        int cheapestByDays(int first, int last) {
            for (int day = first; day <= last; day++) {
                pricesUntil[day] = priceUntil(first, day);
            }
            return pricesUntil[last];
        }

        /** An offer that covers the day leaves only the days before its first one to be covered. */
        private int priceUntil(int first, int day) {
            int best = NO_COVER;
            for (int i = 0; i < count; i++) {
                if (firsts[i] <= day && day <= lasts[i]) {
                    int before = firsts[i] <= first ? 0 : pricesUntil[firsts[i] - 1];
                    best = Math.min(best, before + prices[i]);
                }
            }
            return best;
        }

        /** Returns the price, or NO_COVER. */
        int cheapestBySets(int first, int last) {
            int best = NO_COVER;
            for (int set = 0; set < 1 << count; set++) {
                if (isCover(set, first, last)) {
                    best = Math.min(best, priceOfSet(set));
                }
            }
            return best;
        }

        private int priceOfSet(int set) {
            int price = 0;
            for (int i = 0; i < count; i++) {
                if ((set >> i & 1) == 1) {
                    price += prices[i];
                }
            }
            return price;
        }

        private boolean isCover(int set, int first, int last) {
            int open = first;
            for (int i = 0; i < count && open <= last; i++) {
                open = dayAfter(set, open);
            }
            return open > last;
        }

        /** Returns the day after all days that an offer of the set covers from the open day on. */
        private int dayAfter(int set, int open) {
            int after = open;
            for (int i = 0; i < count; i++) {
                if ((set >> i & 1) == 1 && firsts[i] <= open) {
                    after = Math.max(after, lasts[i] + 1);
                }
            }
            return after;
        }
    }

    /** All that undo and the snapshot cover. */
    private static final class Book {
        final Policies policies = new Policies();
        final Claims claims = new Claims();
        final Treaties treaties = new Treaties();
        final Triangle triangle = new Triangle();
        final Offers offers = new Offers();
        int day;
        int cash;
        int received;
        int paidBack;
        int spentOnTreaties;
        int spentOnClaims;
        int recoveredSoFar;

        void copyFrom(Book other) {
            policies.copyFrom(other.policies);
            claims.copyFrom(other.claims);
            treaties.copyFrom(other.treaties);
            triangle.copyFrom(other.triangle);
            offers.copyFrom(other.offers);
            day = other.day;
            cash = other.cash;
            received = other.received;
            paidBack = other.paidBack;
            spentOnTreaties = other.spentOnTreaties;
            spentOnClaims = other.spentOnClaims;
            recoveredSoFar = other.recoveredSoFar;
        }

        int makePolicy(int sum, int risk, int term) {
            int place = policies.add(sum, risk, term, day);
            received += policies.premiums[place];
            cash += policies.premiums[place];
            return policies.ids[place];
        }

        int removePolicy(int policy) {
            int place = policies.placeOf(policy);
            if (find(claims.policies, claims.count, policy) >= 0) {
                throw new IllegalStateException("there is a claim of the policy");
            }
            int refund = policies.refundAt(place, day);
            policies.remove(place);
            paidBack += refund;
            cash -= refund;
            return refund;
        }

        int makeTreaty(int start, int width, int capacity, int price) {
            checkedNumber(price, 0, MOST_TREATY_PRICE);
            int treaty = treaties.add(start, width, capacity);
            spentOnTreaties += price;
            cash -= price;
            return treaty;
        }

        int removeTreaty(int treaty) {
            int capacity = treaties.capacities[checkedIndex(treaty, treaties.count)];
            if (claims.coinsOf(treaty) > 0) {
                throw new IllegalStateException("the treaty bears a coin of a claim");
            }
            treaties.remove(treaty);
            claims.forgetTreaty(treaty);
            return capacity;
        }

        int makeClaim(int policy, char cause, int damage) {
            int place = policies.placeOf(policy);
            if (!isCause(cause)) {
                throw new IllegalArgumentException("there is no such cause");
            }
            checkedNumber(damage, 1, MOST_DAMAGE);
            if (!policies.isActiveAt(place, day) || claims.count >= MOST_CLAIMS) {
                throw new IllegalStateException("the policy is not active, or there are too many claims");
            }
            int amount = Math.min(damage - deductible(cause, damage), policies.leftAt(place));
            if (amount < 1) {
                throw new UnsupportedOperationException("the amount would be 0 or less");
            }
            int row = claims.add(policy, cause, amount, day);
            treaties.bearCoins(amount, treaties.capacities, claims.parts[row]);
            policies.claimed[place] += amount;
            return claims.ids[row];
        }

        private static int deductible(char cause, int damage) {
            if (cause == 'g') {
                return 2;
            }
            if (cause == 'w') {
                return (damage + 9) / 10;
            }
            return cause == 'f' ? damage / 4 + 1 : 0;
        }

        int payPart(int claim, int coins) {
            int place = claims.placeOf(claim);
            checkedNumber(coins, 1, MOST_PART);
            if (coins > claims.unpaidAt(place)) {
                throw new IllegalStateException("less than this is left to pay");
            }
            int before = claims.recoveredAt(place);
            claims.paid[place] += coins;
            int gain = claims.recoveredAt(place) - before;
            triangle.add(claims.lossDays[place], day, coins);
            spentOnClaims += coins;
            recoveredSoFar += gain;
            cash += gain - coins;
            return gain;
        }

        int removePaidClaim(int claim) {
            int place = claims.placeOf(claim);
            if (claims.unpaidAt(place) > 0) {
                throw new IllegalStateException("something is left to pay");
            }
            int amount = claims.amounts[place];
            claims.remove(place);
            return amount;
        }

        int removeUnpaidClaim(int claim) {
            int place = claims.placeOf(claim);
            if (claims.paid[place] > 0) {
                throw new IllegalStateException("a part was paid");
            }
            int amount = claims.amounts[place];
            policies.claimed[policies.placeOf(claims.policies[place])] -= amount;
            treaties.giveBack(claims.parts[place]);
            claims.remove(place);
            return amount;
        }

        int advance(int days) {
            day += checkedNumber(days, 1, MOST_DAYS);
            return day;
        }

        int latestPeriod() {
            return Math.min(day / DAYS_OF_PERIOD, PERIODS - 1);
        }

        boolean isBalanced() {
            return cash == received - paidBack - spentOnTreaties - spentOnClaims + recoveredSoFar;
        }

        boolean keepsCapacities() {
            for (int i = 0; i < treaties.count; i++) {
                if (treaties.capacities[i] + claims.coinsOf(i) > treaties.firstCapacities[i]) {
                    return false;
                }
            }
            return true;
        }

        boolean layersAgree() {
            for (int amount = 1; amount <= MOST_SUM; amount++) {
                if (treaties.countByRuns(amount) != treaties.countByCoins(amount)) {
                    return false;
                }
            }
            return true;
        }

        boolean outcomesAgree() {
            int half = policies.mostLoss(day) / 2;
            return policies.countByTable(half, day) == policies.countBySets(half, day);
        }

        boolean projectionsAgree() {
            int last = latestPeriod();
            for (int period = 0; period <= last; period++) {
                if (triangle.projectByDelays(period, last) != triangle.projectBackwards(period, last)) {
                    return false;
                }
            }
            return true;
        }

        boolean coversAgree() {
            return offers.cheapestByDays(0, LAST_CHECKED_DAY) == offers.cheapestBySets(0, LAST_CHECKED_DAY);
        }
    }

    /** The states before the latest changes, and a spare one, in a ring that is used again and again. */
    private static final class History {
        private final Book[] slots = new Book[HISTORY_SLOTS];
        private int oldest;
        private int kept;

        History() {
            for (int i = 0; i < HISTORY_SLOTS; i++) {
                slots[i] = new Book();
            }
        }

        private Book spare() {
            return slots[Math.floorMod(oldest + kept, HISTORY_SLOTS)];
        }

        /** Copies the state before a change that may still fail: only keep makes it count. */
        void prepare(Book book) {
            spare().copyFrom(book);
        }

        void keep() {
            if (kept < MOST_CHANGES) {
                kept++;
            } else {
                oldest = Math.floorMod(oldest + 1, HISTORY_SLOTS);
            }
        }

        void bringBack(Book book) {
            book.copyFrom(spare());
        }

        int stepBack(Book book) {
            if (kept == 0) {
                throw new IllegalStateException("there is nothing to undo");
            }
            kept--;
            bringBack(book);
            return kept;
        }

        void forget() {
            kept = 0;
        }
    }

    /** The forms of the commands: N is a number, D a digit, C a cause; all other characters are themselves. */
    private enum Verb {
        INSURE("insure N D N"),
        END("end N"),
        TREATY("treaty N+N*N N"),
        VOID("void D"),
        CLAIM("claim NCN"),
        PAY("pay N N"),
        CLOSE("close N"),
        WAIVE("waive N"),
        OFFER("offer N-N N"),
        WAIT("wait N");

        private static final Verb[] ALL = values();

        final String form;

        Verb(String form) {
            this.form = form;
        }
    }

    private static final class Script {
        private final StringBuilder text = new StringBuilder();
        private final int[] numbers = new int[MOST_NUMBERS];
        private Verb verb;
        private int position;

        int append(char character) {
            if (text.length() >= MOST_CHARACTERS) {
                throw new IllegalStateException("the script buffer is full");
            }
            text.append(character);
            return text.length();
        }

        void empty() {
            text.setLength(0);
        }

        /** Returns NONE if the script has not the required form; its position is the error position then. */
        int countCommands() {
            position = 0;
            for (int commands = 1; commands <= MOST_COMMANDS; commands++) {
                if (!readCommand()) {
                    return NONE;
                }
                if (position >= text.length()) {
                    return commands;
                }
                if (text.charAt(position) != ';') {
                    return NONE;
                }
                position++;
            }
            return NONE;
        }

        /** Returns the index of the first command that fails, or NONE; the form has been looked at before. */
        int firstFailure(Book book, int commands) {
            position = 0;
            for (int i = 0; i < commands; i++) {
                if (!readCommand() || !isDone(book)) {
                    return i;
                }
                position++;
            }
            return NONE;
        }

        /** Where no form goes on, the one that came furthest tells how far a script could go on. */
        private boolean readCommand() {
            int start = position;
            int furthest = start;
            for (int i = 0; i < Verb.ALL.length; i++) {
                position = start;
                if (fits(Verb.ALL[i].form)) {
                    verb = Verb.ALL[i];
                    return true;
                }
                furthest = Math.max(furthest, position);
            }
            position = furthest;
            return false;
        }

        private boolean fits(String form) {
            int read = 0;
            for (int i = 0; i < form.length(); i++) {
                int number = readSign(form.charAt(i));
                if (number < 0) {
                    return false;
                }
                if (isPlaceholder(form.charAt(i)) && read < MOST_NUMBERS) {
                    numbers[read] = number;
                    read++;
                }
            }
            return true;
        }

        private static boolean isPlaceholder(char sign) {
            return sign == 'N' || sign == 'D' || sign == 'C';
        }

        /** Returns what stands for the sign of a form, as a number, or NONE if nothing does. */
        private int readSign(char sign) {
            if (sign == 'N') {
                return readNumber();
            }
            return sign == 'D' ? readDigit() : readCharacter(sign);
        }

        private int readCharacter(char sign) {
            if (position >= text.length()) {
                return NONE;
            }
            char character = text.charAt(position);
            boolean isFitting = sign == 'C' ? isCause(character) : character == sign;
            if (!isFitting) {
                return NONE;
            }
            position++;
            return character;
        }

        private int readNumber() {
            int first = readDigit();
            if (first < 0) {
                return NONE;
            }
            int second = readDigit();
            return second < 0 ? first : first * 10 + second;
        }

        private int readDigit() {
            if (position >= text.length() || text.charAt(position) < '0' || text.charAt(position) > '9') {
                return NONE;
            }
            int digit = text.charAt(position) - '0';
            position++;
            return digit;
        }

        private boolean isDone(Book book) {
            try {
                return execute(book);
            } catch (NoSuchElementException missing) {
                return false;
            } catch (IllegalArgumentException wrong) {
                return false;
            } catch (IllegalStateException unfit) {
                return false;
            } catch (UnsupportedOperationException refused) {
                return false;
            }
        }

        /** Returns false for a treaty that is not there, so that no exception for an index has to be caught. */
        private boolean execute(Book book) {
            if (verb == null || verb == Verb.VOID && numbers[0] >= book.treaties.count) {
                return false;
            }
            switch (verb) {
                case INSURE:
                    book.makePolicy(numbers[0], numbers[1], numbers[2]);
                    break;
                case END:
                    book.removePolicy(numbers[0]);
                    break;
                case TREATY:
                    book.makeTreaty(numbers[0], numbers[1], numbers[2], numbers[3]);
                    break;
                case VOID:
                    book.removeTreaty(numbers[0]);
                    break;
                case CLAIM:
                    book.makeClaim(numbers[0], (char) numbers[1], numbers[2]);
                    break;
                case PAY:
                    book.payPart(numbers[0], numbers[1]);
                    break;
                case CLOSE:
                    book.removePaidClaim(numbers[0]);
                    break;
                case WAIVE:
                    book.removeUnpaidClaim(numbers[0]);
                    break;
                case OFFER:
                    book.offers.add(numbers[0], numbers[1], numbers[2]);
                    break;
                default:
                    book.advance(numbers[0]);
                    break;
            }
            return true;
        }
    }
}
