import java.nio.file.Files;
import java.nio.file.Path;
import java.util.List;

/** A file of runs: "#" and a section, ">" and sentences of it, "-" and the name of a run, and the calls of this run. */
final class RunFile {
    private final Path path;
    private final Document document;
    private String section = "";
    private String quote = "";
    private List<String> quoted = List.of();
    private Run run = null;
    private String lastLine = "";

    RunFile(Path path, Document document) {
        this.path = path;
        this.document = document;
    }

    void check() throws Exception {
        int number = 0;
        for (String line : Files.readAllLines(path)) {
            number++;
            try {
                read(line.trim());
            } catch (IllegalArgumentException | IllegalStateException unreadable) {
                Check.due(path + " " + number, unreadable.getMessage(), "a line that can be run");
            }
        }
        endRun();
        Check.holds(path + " ends with a run", quote.isEmpty());
    }

    private void read(String line) {
        if (line.startsWith("> ")) {
            endRun();
            quote = quote + " " + line.substring(2);
        } else if (line.startsWith("# ")) {
            endRun();
            Check.holds(path + ": a run before " + line, quote.isEmpty());
            section = line.substring(2);
            quoted = List.of();
        } else if (line.startsWith("- ")) {
            endRun();
            startRun(line.substring(2));
        } else if (!line.isEmpty()) {
            makeRun(line);
        }
    }

    private void startRun(String name) {
        if (!quote.isEmpty()) {
            quoted = Document.split(quote);
            quote = "";
            for (String sentence : quoted) {
                Check.holds(section + " has the sentence: " + sentence, document.has(section, sentence));
            }
        }
        Check.holds(section + ": a sentence before " + name, !quoted.isEmpty());
        run = new Run(section + ", " + name);
        lastLine = "";
    }

    private void makeRun(String line) {
        if (run == null) {
            throw new IllegalArgumentException("a call before a run");
        }
        lastLine = line;
        new Line(line).make(run);
    }

    /** Sentences count as tested when a run under them has come to its end. */
    private void endRun() {
        if (run == null) {
            return;
        }
        Check.holds(section + ": a run has calls", !lastLine.isEmpty());
        run.end();
        run = null;
        for (String sentence : quoted) {
            if (document.has(section, sentence)) {
                document.note(section, sentence);
            }
        }
    }
}
