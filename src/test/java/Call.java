import java.util.List;
import java.util.Set;

/** A call of the public face: the name of a method and its arguments, each an Integer or a Character. */
record Call(String name, List<Object> arguments) {
    private static final Set<String> CHANGES = Set.of("insure", "endPolicy", "addTreaty", "dropTreaty", "claim", "pay",
            "closeClaim", "withdrawClaim", "addOffer", "dropOffer", "passDays", "runScript");
    private static final Set<String> OTHERS = Set.of("type", "undo", "save", "restore", "writePolicy", "writeClaim");

    static Call of(String name, Object... arguments) {
        return new Call(name, List.of(arguments));
    }

    /** Whether it is one of the calls that can be undone. */
    boolean isChange() {
        return CHANGES.contains(name);
    }

    /** Whether nothing may be different after it. */
    boolean isQuestion() {
        return !isChange() && !OTHERS.contains(name);
    }

    @Override
    public String toString() {
        StringBuilder text = new StringBuilder(name).append('(');
        for (Object argument : arguments) {
            text.append(text.charAt(text.length() - 1) == '(' ? "" : ", ");
            text.append(argument instanceof Character ? "(char) " + (int) (Character) argument : argument);
        }
        return text.append(')').toString();
    }
}
