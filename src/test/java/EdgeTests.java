import java.util.Set;
import java.util.TreeSet;

/** Runs every boundary test, and fails if a promise of the document has none. */
public final class EdgeTests {
    private static final int PROMISES = 50;

    private EdgeTests() {
    }

    public static void main(String[] args) throws Exception {
        Set<Integer> promises = new TreeSet<>();
        int run = Edges.runs(TapeEdges.class, promises)
            + Edges.runs(QuestionEdges.class, promises) + Edges.runs(ActEdges.class, promises);
        int wrong = Edges.wrong();
        for (int promise = 1; promise <= PROMISES; promise++) {
            if (!promises.contains(promise)) {
                System.out.println("promise " + promise + " has no boundary test");
                wrong++;
            }
        }
        System.out.println(wrong == 0 ? run + " boundary tests hold"
            : wrong + " faults in " + run + " boundary tests");
        if (wrong != 0) {
            System.exit(1);
        }
    }
}
