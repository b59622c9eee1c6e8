import java.util.ArrayList;
import java.util.List;
import java.util.Set;

/**
 * A run of calls on a new object. Beside the answers it looks at what goes for every run: a refused call and a question
 * change nothing, undo takes a change back, and the snapshot brings everything back. For that the run is made again on
 * other new objects, with a call and without it, and both are probed.
 */
final class Run {
    private static final int MOST_CALLS_OF_PROBE = 200;
    private static final int MOST_UNDONE = 8;

    private final String name;
    private final List<Call> made = new ArrayList<>();
    private final Insurer insurer = new Insurer();

    Run(String name) {
        this.name = name;
    }

    /** A call that returns normally, with any answer. */
    void make(Call call) {
        String got = answer(call);
        Check.holds(name + ": " + call + " " + got, !got.startsWith("throws "));
        lookAtUndo(call);
    }

    void answers(Call call, String due) {
        Check.due(name + ": " + call, answer(call), due);
        lookAtUndo(call);
    }

    void refuses(Call call, String exception) {
        Check.due(name + ": " + call, answer(call), "throws " + exception);
        if (!isShort()) {
            return;
        }
        List<Call> without = made.subList(0, made.size() - 1);
        Set<Probe> probes = Probe.allBut();
        if (call.name().equals("runScript")) {
            without = withoutTyped(without);
            probes.remove(exception.equals("IllegalArgumentException") ? Probe.ERROR_POSITION : Probe.FAILED_COMMAND);
        }
        compare("the refused " + call + " changes nothing", made, without, probes);
    }

    private String answer(Call call) {
        made.add(call);
        return insurer.answer(call);
    }

    /** Whether a probe still has its answers within the calls that an object is promised for. */
    private boolean isShort() {
        return made.size() + MOST_CALLS_OF_PROBE <= Insurer.MOST_CALLS;
    }

    /** What was typed since the latest script is gone after the next one. */
    private static List<Call> withoutTyped(List<Call> calls) {
        List<Call> rest = new ArrayList<>(calls);
        for (int i = rest.size() - 1; i >= 0 && !rest.get(i).name().equals("runScript"); i--) {
            if (rest.get(i).name().equals("type")) {
                rest.remove(i);
            }
        }
        return rest;
    }

    /** Where eight changes can be undone before a change, only seven of them can after it is undone. */
    private void lookAtUndo(Call call) {
        if (!call.isChange() || !isShort()) {
            return;
        }
        List<Call> before = made.subList(0, made.size() - 1);
        List<Call> undone = new ArrayList<>(made);
        undone.add(Call.of("undo"));
        compare("undo after " + call, undone, call.name().equals("runScript") ? withoutTyped(before) : before,
                undoable(before) < MOST_UNDONE ? Probe.allBut() : Probe.allBut(Probe.UNDO));
    }

    private static int undoable(List<Call> calls) {
        Insurer insurer = Insurer.after(calls);
        int count = 0;
        while (count < MOST_UNDONE && !insurer.ask("undo").startsWith("throws ")) {
            count++;
        }
        return count;
    }

    void end() {
        if (!isShort()) {
            return;
        }
        compare("questions change nothing", made, made.stream().filter(call -> !call.isQuestion()).toList(),
                Probe.allBut());
        lookAtSnapshot();
        lookAtAgreement();
    }

    private void lookAtSnapshot() {
        List<Call> restored = new ArrayList<>(made);
        restored.add(Call.of("save"));
        restored.addAll(stir());
        restored.add(Call.of("restore"));
        Set<Probe> probes = Probe.allBut();
        probes.removeIf(probe -> !probe.isOfState());
        compare("restore", restored, made, probes);
    }

    /** Calls that change something in every part of the state, as far as it lets them. */
    private List<Call> stir() {
        List<Call> calls = new ArrayList<>(List.of(Call.of("dropOffer", 0), Call.of("addOffer", 0, 9, 7),
                Call.of("addTreaty", 3, 9, 20, 5), Call.of("dropTreaty", 0), Call.of("insure", 9, 3, 20)));
        Insurer now = Insurer.after(made);
        int claims = now.number("claimCount");
        for (int i = 0; i < claims; i++) {
            int id = now.number("claimAt", i);
            calls.add(Call.of("withdrawClaim", id));
            calls.add(Call.of("pay", id, 1));
            calls.add(Call.of("closeClaim", id));
        }
        int policies = now.number("policyCount");
        for (int i = 0; i < policies; i++) {
            int id = now.number("policyAt", i);
            calls.add(Call.of("endPolicy", id));
            calls.add(Call.of("claim", id, 'r', 3));
        }
        calls.add(Call.of("passDays", 13));
        return calls;
    }

    /** What the document finds in two ways is the same in both. */
    private void lookAtAgreement() {
        Insurer now = Insurer.after(made);
        Check.due(name + ": isConsistent at the end", now.ask("isConsistent"), "true");
        for (int amount = 1; amount <= 30; amount++) {
            Check.due(name + ": borneByCoins of " + amount, now.ask("borneByCoins", amount), now.ask("borne", amount));
        }
        for (int period = 0; period <= 5; period++) {
            Check.due(name + ": projectedByRecursion of " + period, now.ask("projectedByRecursion", period),
                    now.ask("projected", period));
        }
        for (int i = 0; i < 20; i++) {
            Check.due(name + ": outcomesWithinBySets of " + i * i, now.ask("outcomesWithinBySets", i * i),
                    now.ask("outcomesWithin", i * i));
            Check.due(name + ": cheapestCoverBySets from " + i, now.ask("cheapestCoverBySets", i, i + i / 2),
                    now.ask("cheapestCover", i, i + i / 2));
        }
    }

    private void compare(String what, List<Call> calls, List<Call> others, Set<Probe> probes) {
        for (Probe probe : probes) {
            String got = probe.of(Insurer.after(calls));
            String due = probe.of(Insurer.after(others));
            Check.due(name + ": " + what + ", " + probe, got.equals(due) ? "" : firstDifference(got, due), "");
        }
    }

    private static String firstDifference(String got, String due) {
        String[] gotLines = got.split("\n");
        String[] dueLines = due.split("\n");
        for (int i = 0; i < Math.min(gotLines.length, dueLines.length); i++) {
            if (!gotLines[i].equals(dueLines[i])) {
                return gotLines[i] + " where due is " + dueLines[i];
            }
        }
        return "more or fewer answers";
    }
}
