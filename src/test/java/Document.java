import java.io.IOException;
import java.nio.file.Files;
import java.nio.file.Path;
import java.util.ArrayList;
import java.util.Arrays;
import java.util.LinkedHashMap;
import java.util.List;
import java.util.Map;
import java.util.Set;
import java.util.TreeSet;
import java.util.regex.Matcher;
import java.util.regex.Pattern;

/** The document's sections, and which of their words and sentences a test quotes. */
final class Document {
    private static final Path PLACE = Path.of("../shared/DOC.md");
    private static final String PROMISE = "Promise ";
    private static final Pattern TERMS_NUMBER = Pattern.compile("^I+\\. ");
    /** A full stop, but not the two of a range as 0 .. 2, and what closes a bracket behind it. */
    private static final Pattern SENTENCE_END = Pattern.compile("(?<=[^. ])\\.\\)?(?= |$)");

    private final Map<String, String> sections = new LinkedHashMap<>();
    private final Map<String, boolean[]> quoted = new LinkedHashMap<>();
    /** By section and test: which sentences of the section the test quotes from. */
    private final Map<String, Map<String, Set<Integer>>> quoters = new LinkedHashMap<>();
    private final List<String> face = new ArrayList<>();
    private final Map<Integer, String> headlines = new LinkedHashMap<>();

    private Document() {
    }

    /** Where the class is built without the document beside it, its words can't be looked at. */
    static boolean isThere() {
        return Files.isReadable(PLACE);
    }

    static Document read() throws IOException {
        Document document = new Document();
        String title = null;
        boolean inFace = false;
        StringBuilder text = new StringBuilder();
        for (String line : Files.readAllLines(PLACE)) {
            if (line.startsWith("```")) {
                inFace = line.equals("```java");
            } else if (inFace) {
                document.face.add(line.strip());
            } else if (line.startsWith("## ")) {
                document.add(title, text.toString());
                title = line.substring(3);
                text.setLength(0);
            } else if (!line.startsWith("# ")) {
                text.append(TERMS_NUMBER.matcher(line).replaceFirst("")).append(' ');
            }
        }
        document.add(title, text.toString());
        return document;
    }

    /** A promise begins with its method between backticks, which belongs to the face. */
    private void add(String title, String text) {
        if (title == null) {
            return;
        }
        String words = text.replaceAll("\\s+", " ").strip();
        if (title.startsWith(PROMISE)) {
            int behind = words.indexOf("`: ");
            headlines.put(numberOf(title), words.substring(1, behind));
            words = words.substring(behind + 3);
        }
        sections.put(title, words);
        quoted.put(title, new boolean[words.length()]);
        quoters.put(title, new LinkedHashMap<>());
    }

    private static int numberOf(String title) {
        return Integer.parseInt(title.substring(PROMISE.length(), title.indexOf(':')));
    }

    /** The lines of the face as they stand. */
    List<String> face() {
        return face;
    }

    /** What stands ahead of a promise's words: its constructor or method. */
    Map<Integer, String> headlines() {
        return headlines;
    }

    /** Marks what a test of a promise quotes, in that promise or in what all of them share. */
    boolean quotes(String test, int promise, String words) {
        for (String title : sections.keySet()) {
            boolean own = title.startsWith(PROMISE) && numberOf(title) == promise;
            if (own && marks(title, test, words)) {
                return true;
            }
        }
        for (String title : sections.keySet()) {
            if (!title.startsWith(PROMISE) && marks(title, test, words)) {
                return true;
            }
        }
        return false;
    }

    private boolean marks(String title, String test, String words) {
        String text = sections.get(title);
        boolean found = false;
        for (int at = text.indexOf(words); at >= 0; at = text.indexOf(words, at + 1)) {
            int behind = at + words.length();
            if (!cutsAWord(text, at) && !cutsAWord(text, behind)) {
                Arrays.fill(quoted.get(title), at, behind, true);
                quoters.get(title).computeIfAbsent(test, none -> new TreeSet<>())
                    .addAll(sentencesFrom(title, at, behind));
                found = true;
            }
        }
        return found;
    }

    /** Where the sentences of a section end, the last one with the section. */
    private List<Integer> ends(String title) {
        String text = sections.get(title);
        List<Integer> ends = new ArrayList<>();
        Matcher end = SENTENCE_END.matcher(text);
        while (end.find()) {
            ends.add(end.end());
        }
        if (ends.isEmpty() || ends.get(ends.size() - 1) < text.length()) {
            ends.add(text.length());
        }
        return ends;
    }

    private Set<Integer> sentencesFrom(String title, int at, int behind) {
        Set<Integer> found = new TreeSet<>();
        int from = 0;
        List<Integer> ends = ends(title);
        for (int i = 0; i < ends.size(); i++) {
            if (at < ends.get(i) && behind > from) {
                found.add(i);
            }
            from = ends.get(i) + 1;
        }
        return found;
    }

    /** Sentences without a test of their own, which quotes no other one of their section. */
    List<String> withoutTheirOwn() {
        List<String> found = new ArrayList<>();
        for (String title : sections.keySet()) {
            String text = sections.get(title);
            List<Integer> ends = ends(title);
            int from = 0;
            for (int i = 0; i < ends.size(); i++) {
                if (!text.isEmpty() && !quoters.get(title).containsValue(Set.of(i))) {
                    found.add(title + ": '" + text.substring(from, ends.get(i)) + "'");
                }
                from = Math.min(ends.get(i) + 1, text.length());
            }
        }
        return found;
    }

    private static boolean cutsAWord(String text, int at) {
        return at > 0 && at < text.length() && Character.isLetterOrDigit(text.charAt(at - 1))
            && Character.isLetterOrDigit(text.charAt(at));
    }

    /** All that has a letter or a digit and is quoted by no test, with its section. */
    List<String> unquoted() {
        List<String> pieces = new ArrayList<>();
        for (String title : sections.keySet()) {
            StringBuilder piece = new StringBuilder();
            String text = sections.get(title);
            for (int at = 0; at <= text.length(); at++) {
                if (at < text.length() && !quoted.get(title)[at]) {
                    piece.append(text.charAt(at));
                } else {
                    if (piece.chars().anyMatch(Character::isLetterOrDigit)) {
                        pieces.add(title + ": '" + piece + "'");
                    }
                    piece.setLength(0);
                }
            }
        }
        return pieces;
    }
}
