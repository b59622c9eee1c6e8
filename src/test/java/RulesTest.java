import java.lang.management.ManagementFactory;
import java.nio.file.Files;
import java.nio.file.Path;
import java.util.List;
import java.util.Set;
import java.util.regex.Matcher;
import java.util.regex.Pattern;

/** Rules of the language that a search finds, and the room that the dearest calls of a run need. */
final class RulesTest {
    private static final int CALLS = 512;
    private static final long MOST_BYTES = 1_000_000;

    public static void main(String[] arguments) throws Exception {
        String code = Files.readString(Path.of("src/main/java/PaperBoatInsurer.java"));
        code = code.replaceAll("(?s)/\\*\\*.*?\\*/", "");
        for (String word : List.of("->", "::", "Exact(", "finally", "synchronized", "assert", "instanceof", "var ",
                "RuntimeException", "Throwable", "getMessage", "protected", "static {", "\" +", "+ \"")) {
            Check.holds("the code is without " + word, !code.contains(word));
        }
        Check.holds("the code is ASCII", code.chars().allMatch(character -> character < 127));
        all(code, "import ([\\w.]+);", Set.of("java.util.Arrays", "java.util.NoSuchElementException"));
        all(code, "catch \\((\\w+) ", Set.of("IllegalArgumentException", "IllegalStateException",
                "NoSuchElementException", "UnsupportedOperationException"));
        all(code, "throw (new \\w+\\(\"[a-z0-9, ]+\"\\);)?", null);
        Check.holds("at most twelve classes", count(code, "\\b(class|enum|interface|record) [A-Z]") <= 12);
        room();
        Check.end();
    }

    private static void all(String code, String pattern, Set<String> allowed) {
        Matcher matcher = Pattern.compile(pattern).matcher(code);
        while (matcher.find()) {
            String found = matcher.group(1);
            Check.holds(pattern + " finds " + found, found != null && (allowed == null || allowed.contains(found)));
        }
    }

    private static int count(String code, String pattern) {
        return (int) Pattern.compile(pattern).matcher(code).results().count();
    }

    /** The first round loads the classes, so only the second one is measured. */
    private static void room() {
        spend();
        com.sun.management.ThreadMXBean threads = (com.sun.management.ThreadMXBean) ManagementFactory.getThreadMXBean();
        long before = threads.getThreadAllocatedBytes(Thread.currentThread().getId());
        spend();
        long spent = threads.getThreadAllocatedBytes(Thread.currentThread().getId()) - before;
        Check.holds(spent + " bytes for a run are at most " + MOST_BYTES, spent <= MOST_BYTES);
    }

    private static void spend() {
        PaperBoatInsurer x = new PaperBoatInsurer();
        for (int i = 0; i < 8; i++) {
            x.insure(30, 4, 60);
            x.addOffer(i, i + 1, 9);
            x.claim(0, 'r', 1);
        }
        for (int i = 24; i < CALLS; i += 4) {
            x.isConsistent();
            x.writePolicy(i % 8);
            x.type('e');
            try {
                x.runScript();
            } catch (IllegalArgumentException malformed) {
                x.save();
            }
        }
    }
}
