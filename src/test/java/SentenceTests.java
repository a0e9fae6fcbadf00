import java.lang.reflect.Method;
import java.util.Set;
import java.util.TreeSet;

/**
 * Runs what the sentences of the document are tested by, and fails if the document has a word that
 * no test of its promise quotes, or a sentence that every test quotes only beside others of its
 * section, or a test a word that the document has not.
 */
public final class SentenceTests {
    private static final Class<?>[] TESTS = {
        TapeSentences.class, QuestionSentences.class, ActSentences.class,
    };
    private static final Class<?>[] BOUNDARY_TESTS = {
        TapeEdges.class, QuestionEdges.class, ActEdges.class,
    };

    /** These sentences say what is free, so that no answer could break them. */
    private static final String[] FREE = {
        "what later calls answer is free.",
        "How the state is held inside the object is free, as are the speed of each call, the text"
        + " of toString and the behaviour of equals and hashCode.",
        "Use of one object from several threads at once is not promised to be safe.",
        "Nothing is promised beyond the answers and state changes described above, and nothing"
        + " about an object after its 512th call.",
    };

    private SentenceTests() {
    }

    public static void main(String[] args) throws Exception {
        Set<Integer> promises = new TreeSet<>();
        int run = 0;
        for (Class<?> tests : TESTS) {
            run += Edges.runs(tests, promises);
        }
        int wrong = Edges.wrong() + looksAtQuotes();
        System.out.println(wrong == 0
            ? run + " tests of sentences hold"
            : wrong + " faults in " + run + " tests of sentences");
        if (wrong != 0) {
            System.exit(1);
        }
    }

    private static int looksAtQuotes() throws Exception {
        if (!Document.isThere()) {
            System.out.println("the document is not there: quotes are not looked at");
            return 0;
        }
        Document document = Document.read();
        int wrong = 0;
        for (Class<?> tests : TESTS) {
            wrong += quotes(document, tests);
        }
        for (Class<?> tests : BOUNDARY_TESTS) {
            wrong += quotes(document, tests);
        }
        for (String free : FREE) {
            wrong += document.quotes("free: " + free, 0, free) ? 0
                : complains("the document lacks: " + free);
        }
        for (String piece : document.unquoted()) {
            wrong += complains("no test says " + piece);
        }
        for (String sentence : document.withoutTheirOwn()) {
            wrong += complains("no test of its own: " + sentence);
        }
        return wrong;
    }

    private static int quotes(Document document, Class<?> tests) {
        int wrong = 0;
        for (Method method : tests.getDeclaredMethods()) {
            Says says = method.getAnnotation(Says.class);
            if (says != null) {
                int promise = Integer.parseInt(method.getName().substring(1, 3));
                for (String words : says.value()) {
                    wrong += document.quotes(method.getName(), promise, words) ? 0
                        : complains(method.getName() + " quotes what is not there: " + words);
                }
            }
        }
        return wrong;
    }

    private static int complains(String text) {
        System.out.println(text);
        return 1;
    }
}
