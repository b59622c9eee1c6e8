import java.io.ByteArrayOutputStream;
import java.io.PrintStream;
import java.net.URL;
import java.net.URLClassLoader;
import java.nio.file.Files;
import java.nio.file.Path;
import java.util.Comparator;
import java.util.List;
import java.util.stream.Stream;
import javax.tools.ToolProvider;

/** The example in README.md prints what README.md says. */
final class ReadmeTest {
    public static void main(String[] arguments) throws Exception {
        Check.begin();
        String readme = Files.readString(Path.of("README.md"));
        Path folder = Files.createTempDirectory("readme");
        try {
            Check.due("the example", printed(folder, block(readme, "java")), block(readme, "text"));
        } finally {
            remove(folder);
        }
        Check.end();
    }

    private static String block(String readme, String kind) {
        String[] parts = readme.split("```" + kind + "\n");
        Check.due("blocks of " + kind, parts.length, 2);
        return parts[1].substring(0, parts[1].indexOf("```"));
    }

    private static String printed(Path folder, String program) throws Exception {
        Path file = Files.writeString(folder.resolve("Example.java"), program);
        int failed = ToolProvider.getSystemJavaCompiler().run(null, null, null, "-cp", System.getProperty("java.class.path"),
                "-d", folder.toString(), file.toString());
        Check.due("the compiler", failed, 0);
        PrintStream before = System.out;
        ByteArrayOutputStream bytes = new ByteArrayOutputStream();
        try (URLClassLoader loader = new URLClassLoader(new URL[] {folder.toUri().toURL()})) {
            System.setOut(new PrintStream(bytes, true));
            loader.loadClass("Example").getMethod("main", String[].class).invoke(null, (Object) new String[0]);
        } finally {
            System.setOut(before);
        }
        return bytes.toString().replace(System.lineSeparator(), "\n");
    }

    private static void remove(Path folder) throws Exception {
        List<Path> paths;
        try (Stream<Path> all = Files.walk(folder)) {
            paths = all.sorted(Comparator.reverseOrder()).toList();
        }
        for (Path path : paths) {
            Files.delete(path);
        }
    }
}
