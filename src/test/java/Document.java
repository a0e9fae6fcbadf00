import java.io.IOException;
import java.nio.file.Files;
import java.nio.file.Path;
import java.util.ArrayList;
import java.util.Arrays;
import java.util.LinkedHashMap;
import java.util.List;
import java.util.Map;
import java.util.regex.Pattern;

/** The document's sections, and which of their words a test quotes. */
final class Document {
    private static final Path PLACE = Path.of("../shared/DOC.md");
    private static final String PROMISE = "Promise ";
    private static final Pattern TERMS_NUMBER = Pattern.compile("^I+\\. ");

    private final Map<String, String> sections = new LinkedHashMap<>();
    private final Map<String, boolean[]> quoted = new LinkedHashMap<>();
    private final List<String> face = new ArrayList<>();
    private final Map<Integer, String> headlines = new LinkedHashMap<>();

    private Document() {
    }

    /** Where the class is built without the document beside it, its words can't be looked at. */
    static boolean isThere() {
        return Files.isReadable(PLACE);
    }

    static Document read() throws IOException {
        Document document = new Document();
        String title = null;
        boolean inFace = false;
        StringBuilder text = new StringBuilder();
        for (String line : Files.readAllLines(PLACE)) {
            if (line.startsWith("```")) {
                inFace = line.equals("```java");
            } else if (inFace) {
                document.face.add(line.strip());
            } else if (line.startsWith("## ")) {
                document.add(title, text.toString());
                title = line.substring(3);
                text.setLength(0);
            } else if (!line.startsWith("# ")) {
                text.append(TERMS_NUMBER.matcher(line).replaceFirst("")).append(' ');
            }
        }
        document.add(title, text.toString());
        return document;
    }

    /** A promise begins with its method between backticks, which belongs to the face. */
    private void add(String title, String text) {
        if (title == null) {
            return;
        }
        String words = text.replaceAll("\\s+", " ").strip();
        if (title.startsWith(PROMISE)) {
            int behind = words.indexOf("`: ");
            headlines.put(numberOf(title), words.substring(1, behind));
            words = words.substring(behind + 3);
        }
        sections.put(title, words);
        quoted.put(title, new boolean[words.length()]);
    }

    private static int numberOf(String title) {
        return Integer.parseInt(title.substring(PROMISE.length(), title.indexOf(':')));
    }

    /** The lines of the face as they stand. */
    List<String> face() {
        return face;
    }

    /** What stands ahead of a promise's words: its constructor or method. */
    Map<Integer, String> headlines() {
        return headlines;
    }

    /** Marks what a test of a promise quotes, in that promise or in what all of them share. */
    boolean quotes(int promise, String words) {
        for (String title : sections.keySet()) {
            if (title.startsWith(PROMISE) && numberOf(title) == promise && marks(title, words)) {
                return true;
            }
        }
        for (String title : sections.keySet()) {
            if (!title.startsWith(PROMISE) && marks(title, words)) {
                return true;
            }
        }
        return false;
    }

    private boolean marks(String title, String words) {
        String text = sections.get(title);
        boolean found = false;
        for (int at = text.indexOf(words); at >= 0; at = text.indexOf(words, at + 1)) {
            if (!cutsAWord(text, at) && !cutsAWord(text, at + words.length())) {
                Arrays.fill(quoted.get(title), at, at + words.length(), true);
                found = true;
            }
        }
        return found;
    }

    private static boolean cutsAWord(String text, int at) {
        return at > 0 && at < text.length() && Character.isLetterOrDigit(text.charAt(at - 1))
            && Character.isLetterOrDigit(text.charAt(at));
    }

    /** All that has a letter or a digit and is quoted by no test, with its section. */
    List<String> unquoted() {
        List<String> pieces = new ArrayList<>();
        for (String title : sections.keySet()) {
            StringBuilder piece = new StringBuilder();
            String text = sections.get(title);
            for (int at = 0; at <= text.length(); at++) {
                if (at < text.length() && !quoted.get(title)[at]) {
                    piece.append(text.charAt(at));
                } else {
                    if (piece.chars().anyMatch(Character::isLetterOrDigit)) {
                        pieces.add(title + ": '" + piece + "'");
                    }
                    piece.setLength(0);
                }
            }
        }
        return pieces;
    }
}
