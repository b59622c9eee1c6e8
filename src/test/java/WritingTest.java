import java.util.NoSuchElementException;

/** Promises 53 to 56. */
final class WritingTest {
    public static void main(String[] arguments) {
        PaperBoatInsurer x = new PaperBoatInsurer();
        for (int wrong : new int[] {-1, 0, Integer.MAX_VALUE, Integer.MIN_VALUE}) {
            Check.refused(x, "outputAt of the empty text", IndexOutOfBoundsException.class, () -> x.outputAt(wrong));
        }
        x.insure(20, 5, 47);
        x.insure(9, 0, 5);
        x.addTreaty(4, 8, 9, 1);
        x.claim(0, 'w', 19);
        x.claim(1, 'f', 6);
        x.pay(0, 5);
        x.passDays(46);
        written(x, x.writePolicy(0), "#0:20x5@47");
        written(x, x.writePolicy(1), "#1:9x0@5!");
        written(x, x.writeClaim(0), "0w17/5=9");
        written(x, x.writeClaim(1), "1f4/0=4");
        Check.refused(x, "writePolicy", NoSuchElementException.class, () -> x.writePolicy(2));
        Check.refused(x, "writeClaim", NoSuchElementException.class, () -> x.writeClaim(-1));
        written(x, 7, "1f4/0=4");
        x.passDays(1);
        x.save();
        written(x, x.writePolicy(0), "#0:20x5@47!");
        x.undo();
        written(x, 11, "#0:20x5@47!");
        x.restore();
        written(x, 11, "#0:20x5@47!");
        Check.holds("isConsistent", x.isConsistent());
        longIds();
        Check.end();
    }

    private static void longIds() {
        PaperBoatInsurer x = new PaperBoatInsurer();
        for (int i = 0; i < 123; i++) {
            x.insure(30, 1, 1);
            x.claim(i, 'g', 3);
            if (i < 122) {
                x.withdrawClaim(i);
                x.endPolicy(i);
            }
        }
        written(x, x.writePolicy(122), "#122:30x1@1");
        written(x, x.writeClaim(122), "122g1/0=1");
    }

    private static void written(PaperBoatInsurer x, int length, String text) {
        Check.due("length of " + text, length, text.length());
        for (int i = 0; i < text.length(); i++) {
            Check.due("character " + i + " of " + text, x.outputAt(i), text.charAt(i));
        }
        for (int wrong : new int[] {-1, text.length(), Integer.MAX_VALUE, Integer.MIN_VALUE}) {
            Check.refused(x, "outputAt", IndexOutOfBoundsException.class, () -> x.outputAt(wrong));
        }
    }
}
