import java.util.NoSuchElementException;

/** Promises 10, 11 and 46 to 48. */
final class OffersTest {
    public static void main(String[] arguments) {
        making();
        wrongOffers();
        dropping();
        covers();
        wrongDays();
        overlaps();
        Check.end();
    }

    private static void making() {
        PaperBoatInsurer x = new PaperBoatInsurer();
        Check.due("offerCount", x.offerCount(), 0);
        Check.due("index", x.addOffer(0, 99, 50), 0);
        Check.due("index", x.addOffer(99, 99, 1), 1);
        Check.due("index", x.addOffer(0, 0, 1), 2);
        for (int i = 3; i < 8; i++) {
            Check.due("index", x.addOffer(i, i + 1, i), i);
        }
        Check.due("offerCount", x.offerCount(), 8);
        Check.due("an offer costs nothing yet", x.cash(), 0);
        Check.refused(x, "ninth offer", IllegalStateException.class, () -> x.addOffer(0, 0, 1));
        Check.refused(x, "wrong ninth offer", IllegalArgumentException.class, () -> x.addOffer(1, 0, 1));
    }

    private static void wrongOffers() {
        int[][] rows = {{-1, 0, 1}, {0, 100, 1}, {100, 100, 1}, {5, 4, 1}, {0, 0, 0}, {0, 0, 51}, {0, -1, 1},
            {Integer.MIN_VALUE, 0, 1}, {0, Integer.MAX_VALUE, 1}, {0, 0, Integer.MAX_VALUE}};
        PaperBoatInsurer x = new PaperBoatInsurer();
        for (int[] row : rows) {
            Check.refused(x, "addOffer of wrong numbers", IllegalArgumentException.class,
                    () -> x.addOffer(row[0], row[1], row[2]));
        }
    }

    private static void dropping() {
        PaperBoatInsurer x = new PaperBoatInsurer();
        Check.refused(x, "drop nothing", IndexOutOfBoundsException.class, () -> x.dropOffer(0));
        x.addOffer(0, 4, 5);
        x.addOffer(3, 9, 6);
        x.addOffer(5, 9, 7);
        for (int wrong : new int[] {-1, 3, 8, Integer.MAX_VALUE, Integer.MIN_VALUE}) {
            Check.refused(x, "drop", IndexOutOfBoundsException.class, () -> x.dropOffer(wrong));
        }
        Check.due("drop", x.dropOffer(1), 6);
        Check.due("offerCount", x.offerCount(), 2);
        Check.due("drop the one behind", x.dropOffer(1), 7);
        Check.due("drop the first", x.dropOffer(0), 5);
    }

    private static void covers() {
        PaperBoatInsurer x = new PaperBoatInsurer();
        x.addOffer(0, 4, 5);
        x.addOffer(3, 9, 6);
        x.addOffer(5, 9, 5);
        x.addOffer(0, 9, 12);
        x.addOffer(12, 20, 1);
        cover(x, 0, 9, 10);
        cover(x, 0, 0, 5);
        cover(x, 4, 4, 5);
        cover(x, 3, 3, 5);
        cover(x, 4, 5, 6);
        cover(x, 5, 9, 5);
        cover(x, 12, 20, 1);
        cover(x, 15, 16, 1);
        uncovered(x, 0, 10);
        uncovered(x, 10, 10);
        uncovered(x, 9, 12);
        uncovered(x, 11, 12);
        uncovered(x, 20, 21);
        uncovered(x, 0, 99);
        x.dropOffer(0);
        cover(x, 0, 9, 12);
        x.addOffer(10, 11, 50);
        cover(x, 0, 20, 63);
    }

    private static void wrongDays() {
        int[][] rows = {{-1, 0}, {0, 100}, {100, 100}, {5, 4}, {0, -1}, {Integer.MIN_VALUE, 0}, {0, Integer.MAX_VALUE}};
        PaperBoatInsurer x = new PaperBoatInsurer();
        x.addOffer(0, 99, 5);
        for (int[] row : rows) {
            Check.refused(x, "cheapestCover of wrong days", IllegalArgumentException.class,
                    () -> x.cheapestCover(row[0], row[1]));
            Check.refused(x, "cheapestCoverBySets of wrong days", IllegalArgumentException.class,
                    () -> x.cheapestCoverBySets(row[0], row[1]));
        }
        cover(x, 0, 99, 5);
        cover(x, 99, 99, 5);
    }

    /** The eight offers, in no order of days, are all needed, and cost the most that a cover can. */
    private static void overlaps() {
        PaperBoatInsurer x = new PaperBoatInsurer();
        int[] firsts = {84, 72, 60, 48, 36, 24, 12, 0};
        for (int first : firsts) {
            x.addOffer(first, Math.min(99, first + 15), 50);
        }
        cover(x, 0, 99, 400);
        cover(x, 0, 87, 350);
        cover(x, 12, 99, 350);
        cover(x, 16, 27, 50);
    }

    private static void cover(PaperBoatInsurer x, int first, int last, int price) {
        Check.due("cheapestCover " + first + " to " + last, x.cheapestCover(first, last), price);
        Check.due("cheapestCoverBySets " + first + " to " + last, x.cheapestCoverBySets(first, last), price);
    }

    private static void uncovered(PaperBoatInsurer x, int first, int last) {
        Check.refused(x, "cheapestCover " + first + " to " + last, NoSuchElementException.class,
                () -> x.cheapestCover(first, last));
        Check.refused(x, "cheapestCoverBySets " + first + " to " + last, NoSuchElementException.class,
                () -> x.cheapestCoverBySets(first, last));
    }
}
