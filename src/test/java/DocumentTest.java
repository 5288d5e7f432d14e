import java.io.IOException;
import java.lang.reflect.Method;

/** The tests of sentences quote the document as it is, and leave out no sentence of it. */
public final class DocumentTest {
    private static final Class<?>[] TESTS = {TermSentencesTest.class, PlanTermSentencesTest.class,
        ChartSentencesTest.class, NodeSentencesTest.class, PlanSentencesTest.class, WorthSentencesTest.class,
        SpanSentencesTest.class, RowSentencesTest.class, TellingSentencesTest.class};
    private static final Due DUE = new Due("DocumentTest");

    public static void main(String[] args) throws IOException {
        String[] document = Sentences.ofDocument();
        if (document == null) {
            System.out.println("DocumentTest: the document is not here");
            return;
        }
        String[] left = document.clone();
        for (Class<?> tests : TESTS) {
            for (Method m : Sentences.of(tests)) quote(document, left, m);
        }
        for (int p = 0; p <= Sentences.PROMISES; p++) nothingLeft(p, left[p]);
        DUE.end();
    }

    private static void quote(String[] document, String[] left, Method m) {
        Says says = m.getAnnotation(Says.class);
        int p = says.promise();
        boolean there = p >= 0 && p <= Sentences.PROMISES && document[p].contains(says.words());
        DUE.is(m.getName() + " quotes promise " + p + ": " + says.words(), there ? 1 : 0, 1);
        if (!there) return;
        int from = document[p].indexOf(says.words());
        while (from >= 0) {
            int to = from + says.words().length();
            left[p] = left[p].substring(0, from) + ".".repeat(to - from) + left[p].substring(to);
            from = document[p].indexOf(says.words(), to);
        }
    }

    private static void nothingLeft(int promise, String left) {
        String words = left.replaceAll("[^A-Za-z0-9]+", " ").strip();
        DUE.is("words of promise " + promise + " without a test: " + words, words.length(), 0);
    }
}
