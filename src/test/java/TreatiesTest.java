import java.util.NoSuchElementException;

/** Promises 4, 5 and 29 to 36. */
final class TreatiesTest {
    public static void main(String[] arguments) {
        making();
        wrongTreaties();
        dropping();
        layers();
        questions();
        runsAndCoins();
        Check.end();
    }

    private static void making() {
        PaperBoatInsurer x = new PaperBoatInsurer();
        Check.due("index", x.addTreaty(29, 30, 99, 99), 0);
        Check.due("cash", x.cash(), -99);
        Check.due("start", x.startOf(0), 29);
        Check.due("capacity", x.capacityOf(0), 99);
        Check.due("next index", x.addTreaty(0, 1, 1, 0), 1);
        Check.due("cash", x.cash(), -99);
        x.addTreaty(1, 1, 1, 7);
        x.addTreaty(2, 1, 1, 0);
        Check.due("cash", x.cash(), -106);
        Check.due("treatyCount", x.treatyCount(), 4);
        Check.refused(x, "fifth treaty", IllegalStateException.class, () -> x.addTreaty(0, 1, 1, 0));
        Check.refused(x, "wrong fifth treaty", IllegalArgumentException.class, () -> x.addTreaty(0, 1, 1, 100));
        Check.refused(x, "wrong fifth treaty", IllegalArgumentException.class, () -> x.addTreaty(30, 1, 1, 0));
    }

    private static void wrongTreaties() {
        int[][] rows = {{-1, 1, 1, 0}, {30, 1, 1, 0}, {0, 0, 1, 0}, {0, 31, 1, 0}, {0, 1, 0, 0}, {0, 1, 100, 0},
            {0, 1, 1, -1}, {0, 1, 1, 100}, {Integer.MIN_VALUE, 1, 1, 0}, {0, Integer.MAX_VALUE, 1, 0}};
        PaperBoatInsurer x = new PaperBoatInsurer();
        for (int[] row : rows) {
            Check.refused(x, "addTreaty of wrong numbers", IllegalArgumentException.class,
                    () -> x.addTreaty(row[0], row[1], row[2], row[3]));
        }
    }

    private static void dropping() {
        PaperBoatInsurer x = new PaperBoatInsurer();
        Check.refused(x, "drop nothing", IndexOutOfBoundsException.class, () -> x.dropTreaty(0));
        x.insure(20, 8, 60);
        x.addTreaty(20, 5, 50, 1);
        x.addTreaty(0, 3, 30, 1);
        x.addTreaty(5, 2, 40, 1);
        x.claim(0, 'r', 6);
        Check.refused(x, "drop a bearing treaty", IllegalStateException.class, () -> x.dropTreaty(1));
        Check.refused(x, "drop a wrong treaty", IndexOutOfBoundsException.class, () -> x.dropTreaty(3));
        Check.refused(x, "drop a wrong treaty", IndexOutOfBoundsException.class, () -> x.dropTreaty(-1));
        int cash = x.cash();
        Check.due("drop", x.dropTreaty(0), 50);
        Check.due("cash as before", x.cash(), cash);
        Check.due("treatyCount", x.treatyCount(), 2);
        Check.due("capacity of the next", x.capacityOf(0), 27);
        Check.due("capacity of the one after", x.capacityOf(1), 39);
        Check.due("start of the next", x.startOf(0), 0);
        Check.due("borneBy after the drop", x.borneBy(0, 0), 3);
        Check.due("borneBy after the drop", x.borneBy(0, 1), 1);
        Check.due("ownPart after the drop", x.ownPart(0), 2);
        x.addTreaty(3, 9, 9, 1);
        Check.due("borneBy of a new treaty", x.borneBy(0, 2), 0);
        x.pay(0, 6);
        Check.refused(x, "drop with a paid claim", IllegalStateException.class, () -> x.dropTreaty(1));
        x.closeClaim(0);
        Check.due("drop after closing", x.dropTreaty(1), 39);
        Check.due("start of the one behind", x.startOf(1), 3);
        Check.due("capacity after closing stays", x.dropTreaty(0), 27);
    }

    private static void layers() {
        PaperBoatInsurer x = new PaperBoatInsurer();
        x.insure(30, 8, 60);
        x.insure(30, 8, 60);
        x.addTreaty(5, 10, 8, 6);
        x.addTreaty(0, 8, 20, 3);
        x.claim(0, 'r', 5);
        Check.due("coins up to the start", x.borneBy(0, 0), 0);
        Check.due("coins of the second", x.borneBy(0, 1), 5);
        x.claim(0, 'r', 6);
        Check.due("the coin behind the start", x.borneBy(1, 0), 1);
        Check.due("ownPart", x.ownPart(1), 0);
        x.claim(1, 'r', 30);
        Check.due("coins 6 to 12", x.borneBy(2, 0), 7);
        Check.due("coins 1 to 5", x.borneBy(2, 1), 5);
        Check.due("ownPart", x.ownPart(2), 18);
        Check.due("capacity used up", x.capacityOf(0), 0);
        Check.due("capacity left", x.capacityOf(1), 5);
        x.claim(0, 'r', 10);
        Check.due("an empty treaty bears nothing", x.borneBy(3, 0), 0);
        Check.due("the other as much as it can", x.borneBy(3, 1), 5);
    }

    private static void questions() {
        PaperBoatInsurer x = new PaperBoatInsurer();
        x.insure(30, 8, 60);
        x.addTreaty(0, 5, 9, 0);
        x.claim(0, 'r', 7);
        Check.due("borneBy", x.borneBy(0, 0), 5);
        Check.due("recovered", x.recovered(0), 0);
        x.pay(0, 4);
        Check.due("recovered", x.recovered(0), 2);
        Check.refused(x, "borneBy", NoSuchElementException.class, () -> x.borneBy(1, 1));
        for (int wrong : new int[] {-1, 1, 4, Integer.MAX_VALUE, Integer.MIN_VALUE}) {
            Check.refused(x, "borneBy", IndexOutOfBoundsException.class, () -> x.borneBy(0, wrong));
            Check.refused(x, "startOf", IndexOutOfBoundsException.class, () -> x.startOf(wrong));
            Check.refused(x, "capacityOf", IndexOutOfBoundsException.class, () -> x.capacityOf(wrong));
        }
        for (int wrong : new int[] {-1, 0, 31, Integer.MAX_VALUE, Integer.MIN_VALUE}) {
            Check.refused(x, "borne", IllegalArgumentException.class, () -> x.borne(wrong));
            Check.refused(x, "borneByCoins", IllegalArgumentException.class, () -> x.borneByCoins(wrong));
        }
    }

    /** The first treaty begins inside the layer of the second, and each stops by its capacity or its end. */
    private static void runsAndCoins() {
        PaperBoatInsurer x = new PaperBoatInsurer();
        x.addTreaty(4, 6, 3, 0);
        x.addTreaty(2, 20, 5, 0);
        x.addTreaty(7, 3, 99, 0);
        x.addTreaty(25, 3, 99, 0);
        int[] coins = {0, 0, 1, 2, 3, 4, 5, 6, 7, 8, 8, 8, 8, 8, 8, 8, 8, 8, 8, 8, 8, 8, 8, 8, 8, 9, 10, 11, 11, 11};
        for (int amount = 1; amount <= 30; amount++) {
            Check.due("borne " + amount, x.borne(amount), coins[amount - 1]);
            Check.due("borneByCoins " + amount, x.borneByCoins(amount), coins[amount - 1]);
        }
        Check.due("asking leaves the capacities", x.capacityOf(0), 3);
    }
}
