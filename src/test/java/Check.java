import java.util.Objects;

/** Counts the answers that are not as due; each test ends with end(), which gives the exit code. */
final class Check {
    private static int checks = 0;
    private static int wrong = 0;

    static void due(String what, Object got, Object want) {
        checks++;
        if (!Objects.equals(got, want)) {
            wrong++;
            System.out.println(what + " answered " + got + ", due is " + want);
        }
    }

    static void holds(String what, boolean got) {
        due(what, got, true);
    }

    /** The call has to throw just this exception and to leave all that can be asked as it was. */
    static void refused(PaperBoatInsurer x, String what, Class<? extends RuntimeException> kind, Runnable call) {
        String before = State.of(x);
        due(what, thrownBy(call), kind);
        due("the state after " + what, State.of(x), before);
    }

    static Class<?> thrownBy(Runnable call) {
        try {
            call.run();
            return null;
        } catch (RuntimeException thrown) {
            return thrown.getClass();
        }
    }

    static void end() {
        System.out.println(wrong + " of " + checks + " answers are not as due");
        if (wrong > 0 || checks == 0) {
            System.exit(1);
        }
    }
}
