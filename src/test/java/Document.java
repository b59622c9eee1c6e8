import java.nio.file.Files;
import java.nio.file.Path;
import java.util.ArrayList;
import java.util.LinkedHashMap;
import java.util.List;
import java.util.Map;
import java.util.Set;

/** The sentences of the document by their sections, and which of them have a test. */
final class Document {
    /** These say what the document is about, and nothing that a call could break. */
    private static final Set<String> NO_RULES = Set.of(
            "An insurer of paper boats: policies with premiums, claims by cause with deductibles, treaties that bear parts of"
                    + " claims coin by coin, payments in parts, a triangle of payments from which reserves are projected, and"
                    + " offers of dry days.",
            "The class finds the coins that treaties bear, the number of outcomes within a loss, projections and the cheapest"
                    + " cover in two ways each, and also offers rankings, a small command language, undo and a snapshot.",
            "It is not thread-safe.");

    private final Map<String, List<String>> sections = new LinkedHashMap<>();
    private final Map<String, List<String>> tested = new LinkedHashMap<>();

    private Document() { }

    static Document read(Path path) throws Exception {
        Document document = new Document();
        for (String section : Files.readString(path).split("\n## ")) {
            String title = section.substring(0, section.indexOf('\n')).replaceAll(":.*", "");
            if (title.matches("What it is|Terms|Promise [0-9]+")) {
                document.sections.put(title, sentencesOf(section.substring(section.indexOf('\n'))));
                document.tested.put(title, new ArrayList<>());
            }
        }
        return document;
    }

    /** Leaves out the lines of parameters, and the signature before the first sentence. */
    private static List<String> sentencesOf(String text) {
        List<String> sentences = new ArrayList<>();
        String rest = text.replaceAll("(?m)^- .*$", "").replaceFirst("`[^`]*\\)[^`]*`: ", "");
        for (String paragraph : rest.replaceAll("\n\n(?=[`w])", "\n").split("\n\n")) {
            sentences.addAll(split(paragraph));
        }
        return sentences;
    }

    /** A name like "Days." before a paragraph of terms is no sentence. */
    static List<String> split(String paragraph) {
        List<String> sentences = new ArrayList<>();
        for (String sentence : paragraph.replaceAll("\\s+", " ").trim().split("(?<=\\.) (?=[A-Z])")) {
            if (sentence.contains(" ")) {
                sentences.add(sentence);
            }
        }
        return sentences;
    }

    boolean has(String section, String sentence) {
        return sections.containsKey(section) && sections.get(section).contains(sentence);
    }

    void note(String section, String sentence) {
        tested.get(section).add(sentence);
    }

    List<String> untested() {
        List<String> untested = new ArrayList<>();
        for (String section : sections.keySet()) {
            for (String sentence : sections.get(section)) {
                if (!tested.get(section).contains(sentence) && !NO_RULES.contains(sentence)) {
                    untested.add(section + ": " + sentence);
                }
            }
        }
        return untested;
    }

    int size() {
        return sections.values().stream().mapToInt(List::size).sum();
    }
}
