import java.io.IOException;
import java.net.URL;
import java.net.URLClassLoader;
import java.nio.file.Files;
import java.nio.file.Path;
import java.util.ArrayList;
import java.util.List;
import java.util.regex.Matcher;
import java.util.regex.Pattern;

/**
 * Compiles the Java that README.md shows, and sees that each call answers what stands behind it: a number
 * or NONE, or "throws" and an exception, right behind the two strokes of a comment.
 */
public final class ReadmeTest {
    private static final Pattern BLOCK = Pattern.compile("(?s)```java\n(.*?)```");
    private static final Pattern TOLD = Pattern.compile("((?:\\w+ (\\w+) = )?(.+));\\s*// (NONE|-?\\d+|throws (\\w+))\\b.*");
    private static final int LEAST_CALLS = 20;

    private static final List<String> faults = new ArrayList<>();
    private static int calls = 0;

    public static void main(String[] args) throws Exception {
        Path folder = Files.createTempDirectory("readme");
        Path source = folder.resolve("Shown.java");
        try {
            Files.writeString(source, shownAsClass(Files.readString(Path.of("README.md"))));
            play(folder, source);
        } finally {
            remove(folder);
        }
        if (calls < LEAST_CALLS) {
            faults.add("README.md shows only " + calls + " calls");
        }
        System.out.println(faults.isEmpty() ? calls + " calls answer as README.md says" : String.join("\n", faults));
        if (!faults.isEmpty()) {
            System.exit(1);
        }
    }

    /** What the class made of the page tells of each of its calls. */
    public static void due(String call, double want, double got) {
        calls++;
        if (want != got) {
            faults.add("README.md, " + call + " answered " + got);
        }
    }

    public static void dueThrown(String call, String want, Runnable run) {
        calls++;
        try {
            run.run();
            faults.add("README.md, " + call + " threw nothing");
        } catch (RuntimeException e) {
            if (!e.getClass().getSimpleName().equals(want)) {
                faults.add("README.md, " + call + " threw " + e.getClass());
            }
        }
    }

    private static String shownAsClass(String page) {
        StringBuilder functions = new StringBuilder();
        StringBuilder body = new StringBuilder();
        Matcher blocks = BLOCK.matcher(page);
        while (blocks.find()) {
            if (blocks.group(1).startsWith("static ")) {
                functions.append(blocks.group(1));
            } else {
                blocks.group(1).lines().forEach(line -> body.append(checked(line)).append('\n'));
            }
        }
        return "public final class Shown {\n" + functions + "public static void play() {\n" + body + "}\n}\n";
    }

    private static String checked(String line) {
        Matcher told = TOLD.matcher(line);
        if (!told.matches()) {
            return line;
        }
        String quoted = "\"" + line.replace("\\", "\\\\").replace("\"", "\\\"") + "\"";
        if (told.group(5) != null) {
            return "ReadmeTest.dueThrown(" + quoted + ", \"" + told.group(5) + "\", () -> " + told.group(3) + ");";
        }
        String want = told.group(4).equals("NONE") ? "VillageWaves.NONE" : told.group(4);
        String name = told.group(2);
        String first = name == null ? "" : told.group(1) + "; ";
        return first + "ReadmeTest.due(" + quoted + ", " + want + ", " + (name == null ? told.group(3) : name) + ");";
    }

    private static void play(Path folder, Path source) throws Exception {
        Process compiler = new ProcessBuilder("javac", "-encoding", "UTF-8", "-cp",
                System.getProperty("java.class.path"), "-d", folder.toString(), source.toString()).inheritIO().start();
        if (compiler.waitFor() != 0) {
            faults.add("what README.md shows does not compile");
            return;
        }
        try (URLClassLoader loader = new URLClassLoader(new URL[] {folder.toUri().toURL()})) {
            loader.loadClass("Shown").getMethod("play").invoke(null);
        }
    }

    private static void remove(Path folder) throws IOException {
        try (var files = Files.list(folder)) {
            for (Path file : (Iterable<Path>) files::iterator) {
                Files.delete(file);
            }
        }
        Files.delete(folder);
    }
}
