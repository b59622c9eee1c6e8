import java.util.ArrayList;
import java.util.List;
import java.util.NoSuchElementException;

/** Promises 61 to 63. */
final class UndoTest {
    public static void main(String[] arguments) {
        everyChange();
        eightChanges();
        failedChanges();
        whatIsNotCovered();
        ids();
        snapshots();
        Check.end();
    }

    private static void everyChange() {
        PaperBoatInsurer x = new PaperBoatInsurer();
        Check.refused(x, "undo", IllegalStateException.class, () -> x.undo());
        List<Runnable> changes = new ArrayList<>();
        changes.add(() -> x.insure(20, 5, 40));
        changes.add(() -> x.insure(9, 8, 40));
        changes.add(() -> x.addTreaty(20, 3, 9, 12));
        changes.add(() -> x.addTreaty(3, 3, 9, 12));
        changes.add(() -> x.claim(0, 'r', 5));
        changes.add(() -> x.claim(1, 'f', 7));
        changes.add(() -> x.pay(1, 5));
        changes.add(() -> x.closeClaim(1));
        changes.add(() -> x.withdrawClaim(0));
        changes.add(() -> x.endPolicy(1));
        changes.add(() -> x.dropTreaty(0));
        changes.add(() -> x.addOffer(0, 9, 9));
        changes.add(() -> x.addOffer(3, 10, 9));
        changes.add(() -> x.dropOffer(0));
        changes.add(() -> x.passDays(12));
        changes.add(() -> ScriptTest.run(x, "insure 9 1 9;claim 2r5;pay 2 4;wait 9"));
        for (int i = 0; i < changes.size(); i++) {
            String before = State.of(x);
            changes.get(i).run();
            Check.due("undo of change " + i, x.undo(), Math.min(i, 7));
            Check.due("the state after the undo of change " + i, State.of(x), before);
            changes.get(i).run();
        }
    }

    private static void eightChanges() {
        PaperBoatInsurer x = new PaperBoatInsurer();
        List<String> earlier = new ArrayList<>();
        for (int i = 0; i < 23; i++) {
            earlier.add(State.of(x));
            x.passDays(1 + i % 5);
        }
        undoEight(x, earlier, 22);
        x.passDays(2);
        Check.due("undo of a new change", x.undo(), 0);
        Check.due("the state", State.of(x), earlier.get(15));
    }

    /** A call that fails is no change, also while eight changes are kept already. */
    private static void failedChanges() {
        PaperBoatInsurer x = new PaperBoatInsurer();
        List<String> earlier = new ArrayList<>();
        for (int i = 0; i < 14; i++) {
            earlier.add(State.of(x));
            x.insure(1 + i % 3, 3, 60);
            fail(x);
            if (i > 4) {
                earlier.add(State.of(x));
                x.endPolicy(x.policyAt(2));
                fail(x);
            }
        }
        undoEight(x, earlier, earlier.size() - 1);
    }

    private static void fail(PaperBoatInsurer x) {
        Check.refused(x, "insure", IllegalArgumentException.class, () -> x.insure(0, 0, 0));
        Check.refused(x, "endPolicy", NoSuchElementException.class, () -> x.endPolicy(50));
        Check.refused(x, "addTreaty", IllegalArgumentException.class, () -> x.addTreaty(0, 0, 0, 0));
        Check.refused(x, "dropTreaty", IndexOutOfBoundsException.class, () -> x.dropTreaty(0));
        Check.refused(x, "claim", NoSuchElementException.class, () -> x.claim(50, 'r', 5));
        Check.refused(x, "pay", NoSuchElementException.class, () -> x.pay(5, 5));
        Check.refused(x, "closeClaim", NoSuchElementException.class, () -> x.closeClaim(5));
        Check.refused(x, "withdrawClaim", NoSuchElementException.class, () -> x.withdrawClaim(5));
        Check.refused(x, "addOffer", IllegalArgumentException.class, () -> x.addOffer(5, 4, 3));
        Check.refused(x, "dropOffer", IndexOutOfBoundsException.class, () -> x.dropOffer(0));
        Check.refused(x, "passDays", IllegalArgumentException.class, () -> x.passDays(0));
        Check.refused(x, "a failing script", IllegalStateException.class, () -> ScriptTest.run(x, "wait 3;wait 0"));
        Check.refused(x, "no script", IllegalArgumentException.class, () -> ScriptTest.run(x, "wait"));
    }

    /** Undoes eight changes, of which the latest one was made in the state with the index that is given. */
    private static void undoEight(PaperBoatInsurer x, List<String> earlier, int latest) {
        for (int i = 0; i < 8; i++) {
            Check.due("undo", x.undo(), 7 - i);
            Check.due("the state after " + (i + 1) + " undone", State.of(x), earlier.get(latest - i));
        }
        Check.refused(x, "the ninth undo", IllegalStateException.class, () -> x.undo());
    }

    private static void whatIsNotCovered() {
        PaperBoatInsurer x = new PaperBoatInsurer();
        x.insure(9, 9 - 1, 9);
        x.passDays(1);
        x.writePolicy(0);
        Check.thrownBy(() -> ScriptTest.run(x, "way"));
        Check.thrownBy(() -> ScriptTest.run(x, "wait 1;end 8"));
        x.type('w');
        x.undo();
        Check.due("the script buffer stays", x.type('a'), 2);
        Check.due("the error position stays", x.errorPosition(), 2);
        Check.due("the failed command stays", x.failedCommand(), 1);
        Check.due("the output text stays", x.outputAt(0), '#');
        x.save();
        x.undo();
        Check.due("undone before the snapshot", x.policyCount(), 0);
        Check.due("the snapshot stays", x.restore(), 1);
        Check.due("the script buffer stays", x.type('i'), 3);
    }

    private static void ids() {
        PaperBoatInsurer x = new PaperBoatInsurer();
        x.insure(9, 8, 9);
        x.claim(0, 'r', 3);
        x.save();
        x.insure(9, 8, 9);
        x.claim(0, 'r', 3);
        x.undo();
        x.undo();
        Check.due("the id of the next policy", x.insure(9, 8, 9), 1);
        Check.due("the id of the next claim", x.claim(0, 'r', 3), 1);
        x.restore();
        Check.due("the id of the next claim", x.claim(0, 'r', 3), 1);
        Check.due("the id of the next policy", x.insure(9, 8, 9), 1);
    }

    private static void snapshots() {
        PaperBoatInsurer x = new PaperBoatInsurer();
        Check.refused(x, "restore", IllegalStateException.class, () -> x.restore());
        Check.due("save", x.save(), 0);
        x.insure(9, 8, 9);
        x.insure(5, 8, 9);
        x.addTreaty(2, 8, 9, 0);
        x.claim(0, 'r', 5);
        x.pay(0, 2);
        x.addOffer(1, 2, 3);
        String before = State.of(x);
        Check.due("save", x.save(), 2);
        Check.due("save leaves the state", State.of(x), before);
        Check.due("save is no change", x.undo(), 5);
        x.passDays(9);
        x.endPolicy(1);
        Check.due("restore", x.restore(), 2);
        Check.due("the state", State.of(x), before);
        Check.refused(x, "undo after restore", IllegalStateException.class, () -> x.undo());
        x.passDays(2);
        Check.due("undo", x.undo(), 0);
        x.passDays(4);
        Check.due("restore again", x.restore(), 2);
        Check.due("the state", State.of(x), before);
    }
}
