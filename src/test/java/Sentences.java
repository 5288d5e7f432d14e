import java.io.IOException;
import java.lang.reflect.Method;
import java.nio.file.Files;
import java.nio.file.Path;
import java.util.ArrayList;
import java.util.Comparator;
import java.util.List;

/** Runs the tests of a class that are each of one sentence of the document. */
final class Sentences {
    private static final Path DOCUMENT = Path.of("../shared/DOC.md");
    static final int PROMISES = 36;

    private Sentences() {
    }

    /** All tests of a class, in the order of the promises. */
    static List<Method> of(Class<?> tests) {
        List<Method> found = new ArrayList<>();
        for (Method m : tests.getDeclaredMethods()) {
            if (m.isAnnotationPresent(Says.class)) found.add(m);
        }
        found.sort(Comparator.comparingInt((Method m) -> m.getAnnotation(Says.class).promise())
            .thenComparing(Method::getName));
        return found;
    }

    static void run(Class<?> tests) throws ReflectiveOperationException {
        int failed = 0;
        List<Method> all = of(tests);
        for (Method m : all) {
            Says says = m.getAnnotation(Says.class);
            Due due = new Due("promise " + says.promise() + " \"" + says.words() + "\" " + m.getName());
            m.invoke(null, due);
            if (due.answers() == 0) System.out.println(m.getName() + " looks at nothing");
            if (due.anyWrong() || due.answers() == 0) failed++;
        }
        System.out.println(tests.getSimpleName() + ": " + all.size() + " tests of sentences, " + failed + " failed");
        if (failed > 0 || all.isEmpty()) System.exit(1);
    }

    /** The document's sentences: place 0 "What it is" and "Terms", the others the promises; null if it is not here. */
    static String[] ofDocument() throws IOException {
        if (!Files.isReadable(DOCUMENT)) return null;
        String text = Files.readString(DOCUMENT);
        String[] out = new String[PROMISES + 1];
        out[0] = plain(usedFor(text)) + " " + plain(termsOf(text));
        for (int p = 1; p <= PROMISES; p++) out[p] = plain(section(text, "## Promise " + p + ":"));
        return out;
    }

    private static String section(String text, String head) {
        int from = text.indexOf(head);
        if (from < 0) return "";
        from = text.indexOf('\n', from);
        int to = text.indexOf("\n## ", from);
        return text.substring(from, to < 0 ? text.length() : to);
    }

    /** What stands ahead of it promises nothing, and what stands behind it is free. */
    private static String usedFor(String text) {
        String all = section(text, "## What it is");
        int from = Math.max(0, all.indexOf("An object is used"));
        int to = all.indexOf(';', from);
        return all.substring(from, to < 0 ? all.length() : to);
    }

    /** What stands behind the terms tells only where the calls stand. */
    private static String termsOf(String text) {
        String terms = section(text, "## Terms");
        int to = terms.indexOf("Ahead of the calls");
        return to < 0 ? terms : terms.substring(0, to);
    }

    /** Without fences, signatures and rulers, with one space at a time. */
    private static String plain(String text) {
        return text.replaceAll("```(text)?", " ").replaceAll("`[^`]*`:", " ").replaceAll("={4,}( [12]\\b)?", " ")
            .replaceAll("\\s+", " ");
    }
}
