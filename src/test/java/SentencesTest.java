import java.io.IOException;
import java.lang.reflect.InvocationTargetException;
import java.lang.reflect.Method;
import java.lang.reflect.Modifier;
import java.nio.file.Files;
import java.nio.file.Path;
import java.util.Arrays;
import java.util.Comparator;
import java.util.List;
import java.util.Set;
import java.util.TreeSet;

/**
 * Runs a test for each sentence of the document that names a boundary case. Each one tells its sentence by
 * Holds; here it is seen that the sentence stands in the document under that heading, and that no promise
 * is without a test.
 */
public final class SentencesTest {
    private static final Path DOCUMENT = Path.of("../shared/DOC.md");
    private static final Class<?>[] TESTS = {TermsSentences.class, SetupSentences.class, PromiseSentences.class};
    private static final int PROMISES = 34;

    private static final Set<String> headings = new TreeSet<>();
    private static int tests = 0;
    private static int wrong = 0;

    public static void main(String[] args) throws IOException {
        String document = Files.isReadable(DOCUMENT) ? onOneLine(Files.readString(DOCUMENT)) : "";
        if (document.isEmpty()) {
            System.out.println("there is no " + DOCUMENT + ": what the tests quote is not looked up");
        }
        for (Class<?> type : TESTS) {
            Method[] methods = type.getDeclaredMethods();
            Arrays.sort(methods, Comparator.comparing(Method::getName));
            for (Method method : methods) {
                if (!Modifier.isPrivate(method.getModifiers()) && !method.isSynthetic()) {
                    play(method, document);
                }
            }
        }
        for (int promise = 1; promise <= PROMISES; promise++) {
            if (!headings.contains("Promise " + promise)) {
                fail("Promise " + promise + " has no test");
            }
        }
        System.out.println(tests + " sentences, " + Asked.checks() + " checks, " + wrong + " wrong");
        if (wrong != 0) {
            System.exit(1);
        }
    }

    private static void play(Method method, String document) {
        tests++;
        Holds holds = method.getAnnotation(Holds.class);
        if (holds == null) {
            fail(method.getName() + " tells no sentence");
            return;
        }
        headings.add(holds.where());
        if (!document.isEmpty() && !sectionOf(document, holds.where()).contains(onOneLine(holds.sentence()))) {
            fail(method.getName() + ": its sentence does not stand under " + holds.where() + ": " + holds.sentence());
        }
        List<String> faults = faultsOf(method);
        if (!faults.isEmpty()) {
            fail(method.getName() + " (" + holds.where() + ": \"" + holds.sentence() + "\"): "
                    + String.join("; ", faults.subList(0, Math.min(4, faults.size()))));
        }
    }

    private static List<String> faultsOf(Method method) {
        try {
            method.setAccessible(true);
            method.invoke(null);
        } catch (InvocationTargetException e) {
            Asked.due("the test", "to end", "with " + e.getCause());
        } catch (IllegalAccessException e) {
            throw new IllegalStateException(e);
        }
        return Asked.takeFaults();
    }

    private static void fail(String fault) {
        wrong++;
        System.out.println(fault);
    }

    private static String onOneLine(String text) {
        return text.replaceAll("\\s+", " ");
    }

    /** What stands behind a heading; under the terms, of "Terms, QUEUES" what stands behind QUEUES. */
    private static String sectionOf(String document, String where) {
        String heading = where.startsWith("Promise") ? "## " + where + ":" : "## " + where.replaceAll(",.*", "");
        int start = document.indexOf(heading);
        if (start < 0) {
            return "";
        }
        int end = document.indexOf(" ## ", start);
        String section = document.substring(start, end < 0 ? document.length() : end);
        return where.contains(", ") ? partOf(section, where.replaceAll(".*, ", "")) : section;
    }

    private static String partOf(String section, String part) {
        int start = section.indexOf(" " + part + " ");
        int end = section.length();
        for (String other : new String[] {"HOUSES", "NEWS", "QUEUES", "A MINUTE", "SETTINGS", "REASONS", "SETUP TEXTS", "EXCEPTIONS"}) {
            int next = section.indexOf(" " + other + " ", start + 1);
            end = next >= 0 && next < end ? next : end;
        }
        return start < 0 ? "" : section.substring(start, end);
    }
}
