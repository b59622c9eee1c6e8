import java.lang.reflect.InvocationTargetException;
import java.lang.reflect.Method;
import java.util.ArrayList;
import java.util.Arrays;
import java.util.HashMap;
import java.util.List;
import java.util.Map;
import java.util.Random;

/** Long runs of calls with fixed seeds, each answer compared with that of the model; all promises. */
final class RandomRunsTest {
    private static final int RUNS = 1500;
    private static final int CALLS = 512;
    private static final int SHOWN = 5;
    private static final String[] CHANGES = {"insure", "insure", "endPolicy", "addTreaty", "dropTreaty", "claim", "claim",
        "claim", "pay", "pay", "pay", "pay", "closeClaim", "withdrawClaim", "addOffer", "dropOffer", "passDays"};
    private static final Map<String, Method> OF_CLASS = new HashMap<>();
    private static final Map<String, Method> OF_MODEL = new HashMap<>();
    private static final List<String> QUESTIONS = new ArrayList<>();
    private static int wrongRuns = 0;

    private final Random random;
    private final PaperBoatInsurer x = new PaperBoatInsurer();
    private final Model model = new Model();
    private final List<String> calls = new ArrayList<>();
    private final int change;
    private final int script;
    private final int days;
    private final int wild;
    private boolean isWrong = false;

    private RandomRunsTest(int seed) {
        random = new Random(seed);
        change = 20 + random.nextInt(70);
        script = random.nextInt(3) == 0 ? 6 : 1;
        days = 1 + random.nextInt(3) * random.nextInt(8);
        wild = 1 + random.nextInt(12);
    }

    public static void main(String[] arguments) throws Exception {
        Check.begin();
        for (Method method : PaperBoatInsurer.class.getDeclaredMethods()) {
            if (java.lang.reflect.Modifier.isPublic(method.getModifiers())) {
                OF_CLASS.put(method.getName(), method);
                OF_MODEL.put(method.getName(), Model.class.getDeclaredMethod(method.getName(), method.getParameterTypes()));
                QUESTIONS.add(method.getName());
            }
        }
        QUESTIONS.removeAll(Arrays.asList(CHANGES));
        QUESTIONS.removeAll(List.of("type", "runScript", "undo", "save", "restore"));
        QUESTIONS.sort(null);
        int seed = arguments.length > 0 ? Integer.parseInt(arguments[0]) : 0;
        int runs = arguments.length > 1 ? Integer.parseInt(arguments[1]) : RUNS;
        for (int i = 0; i < runs && wrongRuns < SHOWN; i++) {
            new RandomRunsTest(seed + i).run();
        }
        Check.due("the number of runs with a wrong answer", wrongRuns, 0);
        Check.end();
    }

    private void run() throws Exception {
        while (calls.size() < CALLS && !isWrong) {
            int draw = random.nextInt(100);
            if (draw < script) {
                runSomeScript();
            } else if (draw < change) {
                call(CHANGES[random.nextInt(CHANGES.length)]);
            } else if (draw < change + 3) {
                compare(new String[] {"undo", "undo", "undo", "save", "restore"}[random.nextInt(5)]);
            } else {
                call(QUESTIONS.get(random.nextInt(QUESTIONS.size())));
            }
        }
    }

    private void call(String name) throws Exception {
        compare(name, argumentsOf(name));
    }

    private void compare(String name, Object... values) throws Exception {
        if (calls.size() >= CALLS || isWrong) {
            return;
        }
        calls.add(name + Arrays.toString(values));
        Object got = answer(OF_CLASS.get(name), x, values);
        Object due = answer(OF_MODEL.get(name), model, values);
        if (!got.equals(due)) {
            isWrong = true;
            wrongRuns++;
            System.out.println(String.join(" ", calls) + " answered " + got + ", due is " + due);
        }
    }

    private static Object answer(Method method, Object target, Object[] values) throws Exception {
        try {
            return method.invoke(target, values);
        } catch (InvocationTargetException thrown) {
            return thrown.getCause().getClass();
        }
    }

    private Object[] argumentsOf(String name) {
        switch (name) {
            case "insure":
                return new Object[] {number(1, 30), number(0, 8), number(random.nextBoolean() ? 30 : 1, 60)};
            case "endPolicy": case "sumOf": case "sumLeft": case "riskOf": case "premiumOf": case "endOf":
            case "isActive": case "writePolicy":
                return new Object[] {policy()};
            case "addTreaty":
                return new Object[] {number(0, random.nextBoolean() ? 9 : 29), number(1, 30),
                    number(1, random.nextBoolean() ? 9 : 99), number(0, 99)};
            case "dropTreaty": case "startOf": case "capacityOf":
                return new Object[] {number(0, model.treatyCount() - 1)};
            case "claim":
                return new Object[] {policy(), cause(), number(1, random.nextInt(4) > 0 ? 15 : 99)};
            case "pay":
                return new Object[] {claim(), number(1, random.nextBoolean() ? 6 : 30)};
            case "addOffer": {
                int first = random.nextInt(4) > 0 ? number(0, 12) : number(0, 99);
                return new Object[] {first, number(first, Math.min(99, first + 12)), number(1, 50)};
            }
            case "cheapestCover": case "cheapestCoverBySets": {
                int first = random.nextInt(4) > 0 ? number(0, 12) : number(0, 99);
                return new Object[] {first, number(first, Math.min(99, first + random.nextInt(20)))};
            }
            case "dropOffer":
                return new Object[] {number(0, model.offerCount() - 1)};
            case "passDays":
                return new Object[] {number(1, days)};
            case "borneBy":
                return new Object[] {claim(), number(0, model.treatyCount() - 1)};
            case "borne": case "borneByCoins":
                return new Object[] {number(1, 30)};
            case "outcomesWithin": case "outcomesWithinBySets":
                return new Object[] {number(0, random.nextBoolean() ? 60 : 260)};
            case "paidIn":
                return new Object[] {number(0, 5), number(0, 5)};
            case "projected": case "projectedByRecursion":
                return new Object[] {number(0, model.lastPeriod())};
            case "policyAt": case "policyByLoad":
                return new Object[] {number(0, model.policyCount() - 1)};
            case "claimAt": case "claimByUnpaid":
                return new Object[] {number(0, model.claimCount() - 1)};
            case "outputAt":
                return new Object[] {number(0, 12)};
            default:
                return OF_CLASS.get(name).getParameterCount() == 0 ? new Object[0] : new Object[] {claim()};
        }
    }

    /** Mostly a number of the range, now and then one at its edge, beside it, or far from it. */
    private int number(int least, int most) {
        if (random.nextInt(100) < wild) {
            int[] odd = {least - 1, most + 1, least, most, 0, -1, Integer.MIN_VALUE, Integer.MAX_VALUE, 100, 1000};
            return odd[random.nextInt(odd.length)];
        }
        return least + random.nextInt(Math.max(1, most - least + 1));
    }

    private int policy() {
        int count = model.policyCount();
        return count > 0 && random.nextInt(100) >= wild ? model.policyAt(random.nextInt(count)) : number(0, 9);
    }

    private int claim() {
        int count = model.claimCount();
        return count > 0 && random.nextInt(100) >= wild ? model.claimAt(random.nextInt(count)) : number(0, 13);
    }

    private char cause() {
        return random.nextInt(100) < wild ? (char) random.nextInt(300) : "rgwf".charAt(random.nextInt(4));
    }

    private void runSomeScript() throws Exception {
        StringBuilder text = new StringBuilder();
        int commands = 1 + random.nextInt(5);
        for (int i = 0; i < commands; i++) {
            text.append(i > 0 ? ";" : "").append(someCommand());
        }
        if (random.nextInt(4) == 0) {
            spoil(text);
        }
        for (int i = 0; i < text.length(); i++) {
            compare("type", text.charAt(i));
        }
        compare("runScript");
        compare(random.nextBoolean() ? "errorPosition" : "failedCommand");
    }

    private void spoil(StringBuilder text) {
        String characters = "0123456789 ;+-*rgwfaeiocpx~";
        char character = characters.charAt(random.nextInt(characters.length()));
        int place = random.nextInt(text.length());
        switch (random.nextInt(4)) {
            case 0 -> text.setLength(place);
            case 1 -> text.setCharAt(place, character);
            case 2 -> text.insert(place, character);
            default -> text.deleteCharAt(place);
        }
    }

    private String someCommand() {
        Object[] v;
        switch (random.nextInt(10)) {
            case 0:
                v = argumentsOf("insure");
                return "insure " + digits(v[0]) + " " + digits(v[1]) % 10 + " " + digits(v[2]);
            case 1:
                return "end " + digits(policy());
            case 2:
                v = argumentsOf("addTreaty");
                return "treaty " + digits(v[0]) + "+" + digits(v[1]) + "*" + digits(v[2]) + " " + digits(v[3]);
            case 3:
                return "void " + random.nextInt(4);
            case 4:
                return "claim " + digits(policy()) + "rgwf".charAt(random.nextInt(4)) + digits(number(1, 20));
            case 5:
                return "pay " + digits(claim()) + " " + digits(number(1, 9));
            case 6:
                return "close " + digits(claim());
            case 7:
                return "waive " + digits(claim());
            case 8:
                v = argumentsOf("addOffer");
                return "offer " + digits(v[0]) + "-" + digits(v[1]) + " " + digits(v[2]);
            default:
                return "wait " + digits(number(1, days));
        }
    }

    private static int digits(Object number) {
        return Math.floorMod((Integer) number, 100);
    }
}
