import java.nio.file.Files;
import java.nio.file.Path;
import java.util.List;
import java.util.stream.Stream;

/** The runs of src/test/runs, each under the sentences of the document that it tests; no sentence is without one. */
final class RunsTest {
    private static final int PROMISES = 63;

    public static void main(String[] arguments) throws Exception {
        Check.begin();
        Document document = Document.read(Path.of("../shared/DOC.md"));
        Check.holds("the document has more sentences than promises", document.size() > 2 * PROMISES);
        for (Path file : files()) {
            new RunFile(file, document).check();
        }
        for (String sentence : document.untested()) {
            Check.due("no run for " + sentence, "", "a run");
        }
        Check.end();
    }

    private static List<Path> files() throws Exception {
        try (Stream<Path> files = Files.list(Path.of("src/test/runs"))) {
            return files.filter(file -> file.toString().endsWith(".txt")).sorted().toList();
        }
    }
}
