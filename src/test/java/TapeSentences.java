import java.io.IOException;
import java.lang.reflect.Field;
import java.lang.reflect.Method;
import java.lang.reflect.Modifier;
import java.util.List;
import java.util.Map;
import java.util.Set;
import java.util.TreeSet;

/** What the document says ahead of its promises, and promises 1 to 6, 49 and 50, of any text. */
final class TapeSentences {
    private TapeSentences() {
    }

    // ---- promise 1, and what stands ahead of it

    /** The public members as the document writes them, sorted. */
    private static Set<String> faceOfTheClass() throws IllegalAccessException {
        Set<String> face = new TreeSet<>();
        face.add("public " + (Modifier.isFinal(OneAtATime.class.getModifiers()) ? "final " : "")
            + "class OneAtATime {");
        for (Field field : OneAtATime.class.getFields()) {
            face.add(Modifier.toString(field.getModifiers()) + " " + field.getType() + " "
                + field.getName() + " = " + field.get(null) + ";");
        }
        face.add("public OneAtATime();");
        for (Method method : OneAtATime.class.getDeclaredMethods()) {
            if (Modifier.isPublic(method.getModifiers())) {
                face.add("public " + told(method.getReturnType().getName(), method.getName(),
                    method.getParameterTypes()) + ";");
            }
        }
        face.add("}");
        return face;
    }

    /** Parameters have no names behind the compiler, so that none are told. */
    private static String told(String type, String name, Class<?>[] parameters) {
        StringBuilder told = new StringBuilder(type).append(' ').append(name).append('(');
        for (int i = 0; i < parameters.length; i++) {
            told.append(i == 0 ? "" : ", ").append(parameters[i].getName());
        }
        return told.append(')').toString();
    }

    private static String withoutNames(String line) {
        return line.replaceAll("\\b(int|long) [a-z]+(?=[,)])", "$1");
    }

    static void p01_theFaceIsTheDocuments() throws IOException, IllegalAccessException {
        if (!Document.isThere()) {
            return;
        }
        Document document = Document.read();
        Set<String> due = new TreeSet<>();
        for (String line : document.face()) {
            due.add(withoutNames(line));
        }
        Edges.dueText("the face", String.join("\n", faceOfTheClass()), String.join("\n", due));
        Edges.due("a public constructor", OneAtATime.class.getConstructors().length, 1);
    }

    static void p01_eachPromiseIsOfOneOfTheFace() throws IOException {
        if (!Document.isThere()) {
            return;
        }
        Document document = Document.read();
        for (Map.Entry<Integer, String> promise : document.headlines().entrySet()) {
            if (!document.face().contains("public " + promise.getValue() + ";")) {
                Edges.fail("promise " + promise.getKey() + " is of " + promise.getValue());
            }
        }
        Edges.due("promises", document.headlines().size(), 50);
    }

    @Says({"Lists that change one bit at a time: words of bits in a row, told by where it starts"
        + " and which bit each step turns; whether it comes round, shows all, each once; how often"
        + " each bit is turned, how soon again, how long it stays; tracks that are one another"
        + " rolled, levels gone up one by one, snakes, words half way round that are opposite;"
        + " made by rules, searched, extended by two bits so that it is cut as one likes; turned"
        + " round, rolled, alike but for names of bits; undone, told."})
    static void p01_whatItIs() {
        OneAtATime x = Edges.with("bits 3 start 0:01020102;", "bits 3 start 0:;");
        Edges.due("one bit at a time", x.word(0, 4) ^ x.word(0, 3), 1 << x.step(0, 3));
        Edges.due("comes round", x.is(0, 0), 1);
        Edges.due("shows all, each once", x.is(0, 2), 1);
        Edges.due("how often", x.turned(0, 0), 4);
        Edges.due("how soon again", x.gap(0, 0), 2);
        Edges.due("how long it stays", x.run(0, 2, 1), 4);
        Edges.due("made by rules", x.makes(1, 1), 6);
        Edges.due("tracks that are one another rolled", x.is(1, 6), 1);
        Edges.due("a snake", x.is(1, 4), 1);
        Edges.due("opposite half way round", x.is(1, 5), 1);
        Edges.due("searched", x.finds(1, 2, 7), 7);
        Edges.due("levels gone up one by one", x.is(1, 3), 1);
        Edges.due("extended by two bits", x.extend(0, 3L), 5);
        Edges.due("undone", x.undo(), 4);
        Edges.due("turned round", x.reverse(0), 0);
        Edges.due("rolled", x.rolls(0, 1), 4);
        TapeWriter.tells(x, 2, "bits 3 start 7:12101210;");
        Edges.due("alike but for names of bits", x.alike(0, 2), 1);
        Edges.due("told", x.tell(2, 1), 32);
    }

    // ---- promise 4

    @Says("TEXT: bits N [levels A to B] start S : [BITS] ;.")
    static void p04_whatMayBeLeftOutAndWhatMayNot() {
        String[][] texts = {
            {"bits 3 levels 1 to 2 start 5 : 012 ;", "3 1 2 5:012"},
            {"bits 3 levels 1 to 2 start 5 : ;", "3 1 2 5:"},
            {"bits 3 start 5 : 012 ;", "3 0 3 5:012"},
            {"bits 3 start 5 : ;", "3 0 3 5:"},
        };
        for (String[] text : texts) {
            OneAtATime x = Edges.with(text[0]);
            Edges.dueText(text[0], Edges.list(x, 0), text[1]);
            String[] tokens = text[0].split(" ");
            for (int left = 0; left < tokens.length; left++) {
                dueWithout(tokens, left);
            }
        }
    }

    /** A text that lacks one token is none, but for the bits. */
    private static void dueWithout(String[] tokens, int left) {
        StringBuilder text = new StringBuilder();
        int place = 0;
        for (int i = 0; i < tokens.length; i++) {
            place = i == left ? text.length() : place;
            text.append(i == left ? "" : tokens[i] + " ");
        }
        boolean bits = tokens[left].equals("012");
        OneAtATime x = new OneAtATime();
        Edges.due("without " + tokens[left] + ": " + text,
            TapeWriter.tells(x, 0, text.toString()), bits ? 0 : -4);
        Edges.due("fault of " + text, x.fault(0), bits ? 0 : 1);
        Edges.due("its place in " + text, x.fault(1), bits ? -1 : place);
    }

    @Says({"The TAPE (empty then) tells the LIST of a SLOT: how many STEPS."})
    static void p04_theListThatTheTextTells() {
        for (Sample s : Sample.some()) {
            for (int slot = 0; slot < 3; slot++) {
                OneAtATime x = new OneAtATime();
                Edges.due("told " + s.text(), TapeWriter.tells(x, slot, s.text()), s.size);
                Edges.dueText("list", Edges.list(x, slot), s.list());
                Edges.due("slots", x.count(0), 1 << slot);
                Edges.due("tape", x.count(2), 0);
            }
        }
    }

    // ---- promise 5

    @Says({"what 0: its FAULT, 0 without, 1: its place (NONE without).", "1 a TOKEN that is none,"
        + " or can't stand there. 2 a number out of its bounds (N; A 0 .. N; B A .. N; S a WORD)."
        + " 3 a bit that is not below N, at it. 4 a 257th bit, at it."})
    static void p05_eachFaultByItsNumberAndItsPlace() {
        String full = "bits 1 start 0:" + "0".repeat(256);
        String[] texts = {
            "bits 3 start 0:;", "bits 3 strat 0:;", "bits 3 3 start 0:;", "bits 3 start 0:",
            "bits 9 start 0:;", "bits 3 levels 4 to 4 start 0:;", "bits 3 levels 1 to 0 start 0:;",
            "bits 3 levels 1 to 4 start 0:;", "bits 3 start 8:;", "bits 3 start 0:013;",
            full + ";", full + "0;",
        };
        int[] faults = {0, 1, 1, 1, 2, 2, 2, 2, 2, 3, 0, 4};
        int[] places = {-1, 7, 7, 15, 5, 14, 19, 19, 13, 17, -1, 271};
        for (int i = 0; i < texts.length; i++) {
            OneAtATime x = new OneAtATime();
            TapeWriter.tells(x, 0, texts[i]);
            Edges.due("fault of " + texts[i], x.fault(0), faults[i]);
            Edges.due("its place in " + texts[i], x.fault(1), places[i]);
        }
    }

    @Says("2 a number out of its bounds (N; A 0 .. N; B A .. N; S a WORD).")
    static void p05_everyNumberAtItsBounds() {
        int[] starts = {0, 1, 2, 3, 4, 7, 8, 15, 16, 31, 32, 63, 64, 127, 128, 255, 256, 511};
        for (int n = 0; n <= 9; n++) {
            for (int a = 0; a <= 9; a++) {
                for (int b = 0; b <= 9; b++) {
                    for (int start : starts) {
                        dueNumbers(n, a, b, start);
                    }
                }
            }
        }
    }

    private static void dueNumbers(int n, int a, int b, int start) {
        String text = "bits " + n + " levels " + a + " to " + b + " start " + start + ":;";
        int place = n < 1 || n > 8 ? 5
            : a > n ? 14
            : b < a || b > n ? 19
            : start >= 1 << n ? 27 : -1;
        OneAtATime x = new OneAtATime();
        Edges.due("told " + text, TapeWriter.tells(x, 0, text), place < 0 ? 0 : -4);
        Edges.due("fault of " + text, x.fault(0), place < 0 ? 0 : 2);
        Edges.due("its place in " + text, x.fault(1), place);
    }

    @Says("3 a bit that is not below N, at it.")
    static void p05_everyBitAtEveryPlace() {
        for (int n = 1; n <= 8; n++) {
            for (int bit = 0; bit <= 9; bit++) {
                for (int ahead : new int[] {0, 1, 2, 255}) {
                    String text = "bits " + n + " start 0:" + "0".repeat(ahead) + bit + ";";
                    OneAtATime x = new OneAtATime();
                    Edges.due("told " + text, TapeWriter.tells(x, 0, text),
                        bit < n ? ahead + 1 : -4);
                    Edges.due("fault of " + text, x.fault(0), bit < n ? 0 : 3);
                    Edges.due("its place in " + text, x.fault(1), bit < n ? -1 : 15 + ahead);
                }
            }
        }
    }

    @Says("TOKENS, blanks (32, 10) aside, the longest: words (a .. z), digits, else single bytes.")
    static void p05_tokensByTheirKinds() {
        // each text is faulty at its second token alone, whose place tells where the first one ends
        String[] texts = {"bits#", "bits :", "bits\n\nbits", "bits 3bits", "bits 3 start0bits",
            "bits 3 start 0::", "bits 3 start 0:;;", "bits 3 start 0:012levels"};
        int[] places = {4, 5, 6, 6, 13, 15, 16, 18};
        for (int i = 0; i < texts.length; i++) {
            OneAtATime x = new OneAtATime();
            Edges.due("told " + texts[i], TapeWriter.tells(x, 0, texts[i]), -4);
            Edges.due("fault of " + texts[i], x.fault(0), 1);
            Edges.due("its place in " + texts[i], x.fault(1), places[i]);
        }
    }

    // ---- promise 6

    @Says({"0 SLOTS with a LIST, as bits, 1 acts that can be undone, 2 bytes of the TAPE, 3 of"
        + " OUT."})
    static void p06_eachWhatByItsNumber() {
        OneAtATime x = Edges.with(null, "bits 2 start 0:010;", "bits 1 start 0:;");
        x.adds(1, 1);
        x.feed(0, 0, 0, 0, 0);
        x.tell(1, 1);
        Edges.due("slots 1 and 2", x.count(0), 6);
        Edges.due("acts", x.count(1), 3);
        Edges.due("bytes of the tape", x.count(2), 20);
        Edges.due("bytes of out", x.count(3), 4 * 3);
    }

    // ---- promises 49 and 50

    @Says({"The LIST is TOLD in OUT, what 0: as a TEXT (blanks between words and numbers alone;"
        + " levels always told),", ": how many bytes."})
    static void p49_asAText() {
        for (Sample s : Sample.some()) {
            OneAtATime x = Edges.with(s.text());
            Edges.due("tell " + s.text(), x.tell(0, 0), s.text().length());
            Edges.dueText("out", TapeWriter.out(x), s.text());
            Edges.due("told again", TapeWriter.tells(x, 1, s.text()), s.size);
        }
    }

    @Says({"1: WORDS of SHOWN places, N signs 0, 1 each (bit N less 1 first), LF (10) behind"
        + " each"})
    static void p49_asWords() {
        for (Sample s : Sample.some()) {
            StringBuilder want = new StringBuilder();
            for (int place = 0; place < s.shown; place++) {
                for (int bit = s.n - 1; bit >= 0; bit--) {
                    want.append(s.bitAt(place, bit));
                }
                want.append('\n');
            }
            Edges.due("tell " + s.text(), Edges.with(s.text()).tell(0, 1), want.length());
            Edges.dueText("words of " + s.text(), Edges.out(x -> {
                TapeWriter.tells(x, 0, s.text());
                x.tell(0, 1);
            }), want.toString());
        }
    }

    @Says({"Byte i of OUT", "NONE: there is none such."})
    static void p50_eachByte() {
        String text = "bits 3 levels 0 to 3 start 0:01020102;";
        OneAtATime x = Edges.with(Edges.GRAY3);
        x.tell(0, 0);
        for (int i = 0; i < text.length(); i++) {
            Edges.due("octet " + i, x.octet(i), text.charAt(i));
        }
        for (int i : List.of(-1, text.length(), text.length() + 1)) {
            Edges.due("octet " + i, x.octet(i), -1);
        }
    }
}
