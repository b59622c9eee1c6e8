import java.lang.management.ManagementFactory;
import java.nio.file.Files;
import java.nio.file.Path;
import java.util.List;
import java.util.Set;
import java.util.regex.Matcher;
import java.util.regex.Pattern;

/** Rules of the language that a search finds, and the room that the dearest calls of a run need. */
final class RulesTest {
    private static final int CALLS = 512;
    private static final int MOST_CLASSES = 12;
    private static final int MOST_LINES_OF_METHOD = 60;
    private static final String THROWN = "IllegalStateException|IllegalArgumentException|IndexOutOfBoundsException"
            + "|ArithmeticException|UnsupportedOperationException|NoSuchElementException|RuntimeException";
    /** A run has room for 600,000 objects and 7.3 million elements; an element takes a byte, an object 16, at least. */
    private static final long MOST_BYTES = 7_300_000;

    public static void main(String[] arguments) throws Exception {
        Check.begin();
        String code = Files.readString(Path.of("src/main/java/PaperBoatInsurer.java")).replaceAll("(?s)/\\*.*?\\*/", "");
        for (String word : List.of("::", "Exact(", "finally", "synchronized", "assert ", "Throwable", "getMessage",
                "protected ", "static {", "\" +", "+ \"", "package ")) {
            Check.holds("the code is without " + word, !code.contains(word));
        }
        Check.holds("the code has no lambda", !Pattern.compile("(?m)^(?!\\s*(case|default)).*->").matcher(code).find());
        Check.holds("the code is ASCII", code.chars().allMatch(character -> character < 127));
        all(code, "import ([\\w.]+);", Set.of("java.util.Arrays", "java.util.ArrayList", "java.util.List",
                "java.util.Iterator", "java.util.NoSuchElementException"));
        all(code, "catch \\((\\w+) ", Set.of("IllegalArgumentException", "IllegalStateException",
                "NoSuchElementException", "UnsupportedOperationException"));
        Check.due("throw statements of another form", count(code, "\\bthrow ")
                - count(code, "\\bthrow new (" + THROWN + ")\\((\"[^\"]*\")?\\);"), 0);
        Check.holds("at most twelve classes", count(code, "\\b(class|enum|interface|record) [A-Z]") <= MOST_CLASSES);
        Check.due("methods with more than seven parameters", count(code, "\\w\\((?:[^(),]+,){7,}[^(),]+\\)[^;{]*\\{"), 0);
        lengths(code);
        room();
        Check.end();
    }

    private static void all(String code, String pattern, Set<String> allowed) {
        Matcher matcher = Pattern.compile(pattern).matcher(code);
        while (matcher.find()) {
            Check.holds(pattern + " finds " + matcher.group(1), allowed.contains(matcher.group(1)));
        }
    }

    private static int count(String code, String pattern) {
        return (int) Pattern.compile(pattern).matcher(code).results().count();
    }

    /** A method begins with a head that ends in a brace and ends with a brace that stands as far to the right. */
    private static void lengths(String code) {
        Matcher matcher = Pattern.compile("(?m)^( {4}| {8})(\\w[^;{}=]*\\)[^;{}=]*)\\{\n((?:\\1 .*\n|\n)*)\\1\\}").matcher(code);
        int methods = 0;
        while (matcher.find()) {
            methods++;
            Check.holds("length of " + matcher.group(2), matcher.group(3).lines().count() <= MOST_LINES_OF_METHOD);
        }
        Check.holds("methods are found", methods > 0);
    }

    /** The first round loads the classes, so only the second one is measured. */
    private static void room() {
        spend();
        com.sun.management.ThreadMXBean threads = (com.sun.management.ThreadMXBean) ManagementFactory.getThreadMXBean();
        long before = threads.getThreadAllocatedBytes(Thread.currentThread().getId());
        spend();
        long spent = threads.getThreadAllocatedBytes(Thread.currentThread().getId()) - before;
        Check.holds(spent + " bytes for a run are at most " + MOST_BYTES, spent <= MOST_BYTES);
    }

    private static void spend() {
        PaperBoatInsurer x = new PaperBoatInsurer();
        for (int i = 0; i < 8; i++) {
            x.insure(30, 4, 60);
            x.addOffer(i, i + 1, 9);
            x.claim(0, 'r', 1);
        }
        for (int i = 24; i < CALLS; i += 4) {
            x.isConsistent();
            x.writePolicy(i % 8);
            x.type('e');
            try {
                x.runScript();
            } catch (IllegalArgumentException malformed) {
                x.save();
            }
        }
    }
}
