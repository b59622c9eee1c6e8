import java.util.ArrayList;
import java.util.List;
import java.util.regex.Matcher;
import java.util.regex.Pattern;

/**
 * A line of a run. "sumOf(0) = 5" is a call with its answer, "insure(1, 0, 1) = 0 1 2" is made three times, and
 * "borne(1..3) = 0 1 2" and "borne({0, 31}) throws IllegalArgumentException" are made for each number. A call alone
 * returns with any answer, also "3 times passDays(60)". run "end 0" = 1 types a script and runs it, also with
 * "throws IllegalArgumentException at 4"; type "end" only types it, and text "#0" reads the output text.
 */
final class Line {
    private static final Pattern QUOTED = Pattern.compile("(run|type|text) \"(.*)\"( .*)?");
    private static final Pattern CALL = Pattern.compile("(?:([0-9]+) times )?(\\w+)\\(([^)]*)\\)( .*)?");
    private static final Pattern THROWN = Pattern.compile(" throws (\\w+)(?: at ([0-9]+))?");

    private final String line;

    Line(String line) {
        this.line = line;
    }

    void make(Run run) {
        Matcher quoted = QUOTED.matcher(line);
        Matcher call = CALL.matcher(line);
        if (quoted.matches()) {
            makeQuoted(run, quoted.group(1), quoted.group(2), tail(quoted.group(3)));
        } else if (call.matches()) {
            makeCalls(run, call);
        } else {
            throw new IllegalArgumentException("no call: " + line);
        }
    }

    private static String tail(String group) {
        return group == null ? "" : group;
    }

    private void makeQuoted(Run run, String kind, String text, String tail) {
        if (kind.equals("text")) {
            readText(run, text);
            return;
        }
        for (int i = 0; i < text.length(); i++) {
            run.make(Call.of("type", text.charAt(i)));
        }
        if (kind.equals("run")) {
            make(run, List.of(Call.of("runScript")), tail);
            Matcher thrown = THROWN.matcher(tail);
            if (thrown.matches() && thrown.group(2) != null) {
                boolean isMalformed = thrown.group(1).equals("IllegalArgumentException");
                run.answers(Call.of(isMalformed ? "errorPosition" : "failedCommand"), thrown.group(2));
            }
        }
    }

    private static void readText(Run run, String text) {
        for (int i = 0; i < text.length(); i++) {
            run.answers(Call.of("outputAt", i), text.substring(i, i + 1));
        }
        for (int wrong : new int[] {text.length(), -1, Integer.MAX_VALUE, Integer.MIN_VALUE}) {
            run.refuses(Call.of("outputAt", wrong), "IndexOutOfBoundsException");
        }
    }

    private void makeCalls(Run run, Matcher call) {
        List<Call> calls = new ArrayList<>();
        int times = call.group(1) == null ? 1 : Integer.parseInt(call.group(1));
        for (int i = 0; i < times; i++) {
            for (List<Object> arguments : argumentsOf(call.group(2), call.group(3))) {
                calls.add(new Call(call.group(2), arguments));
            }
        }
        make(run, calls, tail(call.group(4)));
    }

    private void make(Run run, List<Call> calls, String tail) {
        Matcher thrown = THROWN.matcher(tail);
        if (tail.isEmpty()) {
            calls.forEach(run::make);
        } else if (thrown.matches()) {
            calls.forEach(call -> run.refuses(call, thrown.group(1)));
        } else if (tail.startsWith(" = ")) {
            makeAnswered(run, calls, tail.substring(3).trim().split(" +"));
        } else {
            throw new IllegalArgumentException("no answer: " + line);
        }
    }

    private void makeAnswered(Run run, List<Call> calls, String[] answers) {
        if (calls.size() > 1 && answers.length > 1 && calls.size() != answers.length) {
            throw new IllegalArgumentException(calls.size() + " calls, " + answers.length + " answers: " + line);
        }
        for (int i = 0; i < Math.max(calls.size(), answers.length); i++) {
            run.answers(calls.get(Math.min(i, calls.size() - 1)), answers[Math.min(i, answers.length - 1)]);
        }
    }

    /** All lists of arguments that the text stands for: the product of what stands for each argument. */
    private static List<List<Object>> argumentsOf(String name, String text) {
        Class<?>[] parameters = Insurer.parameters(name);
        String[] parts = text.isEmpty() ? new String[0] : text.split(", *(?![^{]*\\})");
        if (parts.length != parameters.length) {
            throw new IllegalArgumentException(name + " takes " + parameters.length + " arguments");
        }
        List<List<Object>> lists = List.of(List.of());
        for (int i = 0; i < parts.length; i++) {
            List<List<Object>> longer = new ArrayList<>();
            for (List<Object> list : lists) {
                for (Object value : valuesOf(parts[i], parameters[i] == char.class)) {
                    List<Object> one = new ArrayList<>(list);
                    one.add(value);
                    longer.add(one);
                }
            }
            lists = longer;
        }
        return lists;
    }

    private static List<Object> valuesOf(String part, boolean isCharacter) {
        List<Object> values = new ArrayList<>();
        if (part.contains("..")) {
            int last = Integer.parseInt(part.substring(part.indexOf("..") + 2));
            for (int i = Integer.parseInt(part.substring(0, part.indexOf(".."))); i <= last; i++) {
                values.add(value(String.valueOf(i), isCharacter));
            }
            return values;
        }
        for (String one : part.replaceAll("[{}]", "").split(", *")) {
            values.add(value(one, isCharacter));
        }
        return values;
    }

    private static Object value(String text, boolean isCharacter) {
        if (text.equals("MIN") || text.equals("MAX")) {
            return text.equals("MIN") ? Integer.MIN_VALUE : Integer.MAX_VALUE;
        }
        if (text.startsWith("'")) {
            return text.charAt(1);
        }
        int number = Integer.parseInt(text);
        return isCharacter ? (Object) (char) number : (Object) number;
    }
}
