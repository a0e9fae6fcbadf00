import java.util.ArrayList;
import java.util.List;

/** What the promises that change a slot say of any list: 28 to 30, 34 to 36, 38 to 45, 47, 48. */
final class ActSentences {
    private ActSentences() {
    }

    private static OneAtATime with(Sample sample) {
        return Edges.with(sample.text());
    }

    private static void due(Sample sample, String call, long got, long want) {
        Edges.due(call + " of " + sample.text(), got, want);
    }

    private static void dueList(Sample before, String call, OneAtATime x, Sample want) {
        Edges.dueText(call + " of " + before.text(), Edges.list(x, 0), want.list());
    }

    private static String back(String steps) {
        return new StringBuilder(steps).reverse().toString();
    }

    // ---- promise 28

    @Says({"the list: from START on the i-th STEP (i from 1 to 2 to the N less 1) turns the lowest"
        + " bit that is 1 in i; then one more STEP turns bit N less 1 (it comes round).",
        "The LIST is made, what 0: REFLECTED,", "(its START stays): how many STEPS."})
    static void p28_reflected() {
        for (int n = 1; n <= 8; n++) {
            StringBuilder steps = new StringBuilder();
            for (int i = 1; i < 1 << n; i++) {
                int bit = 0;
                while (i / (1 << bit) % 2 == 0) {
                    bit++;
                }
                steps.append(bit);
            }
            Sample want = new Sample(n, 1, n, 1, steps.append(n - 1).toString());
            Sample before = new Sample(n, 1, n, 1, "0");
            OneAtATime x = with(before);
            due(before, "reflected", x.makes(0, 0), 1 << n);
            dueList(before, "reflected", x, want);
            OneAtATime y = with(before);
            y.makes(0, 0);
            for (int place = 0; place < 1 << n; place++) {
                due(before, "number " + place, y.word(0, place), place ^ place / 2 ^ 1);
            }
            due(before, "it comes round", y.is(0, 0), 1);
            due(before, "its start stays", y.look(0, 3), 1);
        }
    }

    @Says({"LADDER: from START on STEPS that turn bit 0, 1, .. N less 1, and again 0 .. N less 1.",
        "1: LADDER,"})
    static void p28_ladder() {
        for (int n = 1; n <= 8; n++) {
            String once = "01234567".substring(0, n);
            Sample before = new Sample(n, 0, n - 1, 1, "0");
            OneAtATime x = with(before);
            due(before, "ladder", x.makes(0, 1), 2 * n);
            dueList(before, "ladder", x, new Sample(n, 0, n - 1, 1, once + once));
        }
    }

    @Says({"TWICE: behind the STEPS there are, the same once more", "2: TWICE"})
    static void p28_twice() {
        for (Sample s : Sample.some()) {
            OneAtATime x = with(s);
            due(s, "twice", x.makes(0, 2), 2 * s.size);
            dueList(s, "twice", x, new Sample(s.n, s.a, s.b, s.start, s.steps + s.steps));
        }
    }

    // ---- promise 29

    /** Whether steps may be told one by one; all of them by the law, if they show the scope. */
    private interface Rule {
        boolean allows(Sample path);

        /** What the steps become, if they are the ones that are sought; else null. */
        Sample accepts(Sample path);
    }

    /** What a search is due to find, and how many steps it takes until then. */
    private record Found(Sample list, int taken) {
    }

    /**
     * All steps that a rule allows, as texts, shorter ones first. The one that is sought and comes
     * first in a dictionary is found; each text ahead of it there, and itself, is a step taken.
     */
    private static Found search(Sample from, Rule rule) {
        List<Sample> allowed = new ArrayList<>();
        Sample none = new Sample(from.n, from.a, from.b, from.start, "");
        if (rule.allows(none)) {
            allowed.add(none);
        }
        for (int next = 0; next < allowed.size(); next++) {
            Sample path = allowed.get(next);
            for (int bit = 0; bit < from.n; bit++) {
                Sample longer = new Sample(from.n, from.a, from.b, from.start, path.steps + bit);
                if (rule.allows(longer)) {
                    allowed.add(longer);
                }
            }
        }
        Sample first = null;
        for (Sample path : allowed) {
            boolean sought = rule.accepts(path) != null;
            if (sought && (first == null || path.steps.compareTo(first.steps) < 0)) {
                first = path;
            }
        }
        int taken = 0;
        for (Sample path : allowed) {
            boolean ahead = first == null || path.steps.compareTo(first.steps) <= 0;
            taken += path.size > 0 && ahead ? 1 : 0;
        }
        return new Found(first == null ? null : rule.accepts(first), taken);
    }

    private record ByLaw(int law) implements Rule {
        @Override
        public boolean allows(Sample path) {
            boolean allowed = law != 2 || path.monotone();
            for (int place = 0; place <= path.size; place++) {
                allowed = allowed && path.inScope(path.words[place]);
                for (int other = 0; other < place; other++) {
                    allowed = allowed && path.words[other] != path.words[place];
                }
            }
            return allowed;
        }

        @Override
        public Sample accepts(Sample path) {
            if (path.size + 1 != path.scopeSize()) {
                return null;
            }
            if (law == 0 || law == 2) {
                return path;
            }
            for (int bit = 0; bit < path.n; bit++) {
                Sample round = new Sample(path.n, path.a, path.b, path.start, path.steps + bit);
                if (round.loop && path.size > 0 && (law == 1 || round.opposite())) {
                    return round;
                }
            }
            return null;
        }
    }

    private interface Seek {
        int on(OneAtATime x, int tries);
    }

    /** With as many tries as steps are taken the answer is known, with one fewer it is too long. */
    private static void dueFound(Sample before, Found found, Seek seek) {
        OneAtATime x = with(before);
        int tries = Math.max(found.taken(), 1);
        due(before, "found by " + tries, seek.on(x, tries),
            found.list() == null ? -1 : found.list().size);
        dueList(before, "found by " + tries, x, found.list() == null ? before : found.list());
        if (found.taken() > 1) {
            OneAtATime y = with(before);
            due(before, "one fewer", seek.on(y, found.taken() - 1), -3);
            dueList(before, "it stays", y, before);
        }
    }

    private static int[][] scopes() {
        List<int[]> scopes = new ArrayList<>();
        for (int n = 1; n <= 3; n++) {
            for (int a = 0; a <= n; a++) {
                for (int b = a; b <= n; b++) {
                    scopes.add(new int[] {n, a, b});
                }
            }
        }
        scopes.add(new int[] {4, 0, 1});
        scopes.add(new int[] {4, 1, 2});
        scopes.add(new int[] {4, 2, 3});
        scopes.add(new int[] {5, 1, 1});
        scopes.add(new int[] {5, 4, 5});
        return scopes.toArray(new int[0][]);
    }

    private static void dueByLaw(int law) {
        for (int[] scope : scopes()) {
            for (int start = 0; start < 1 << scope[0]; start++) {
                Sample before = new Sample(scope[0], scope[1], scope[2], start, "00");
                dueFound(before, search(before, new ByLaw(law)),
                    (x, tries) -> x.finds(0, law, tries));
            }
        }
    }

    @Says({"The LIST becomes the first that SEARCH finds by a LAW (0 none,",
        ": how many STEPS. NONE: there is none; -3: it is TOO LONG;",
        "SEARCH: from START (if it is of the SCOPE; else there is none): STEPS, the least bit"
        + " first, to WORDS of the SCOPE that were not there yet, till all were; else back."})
    static void p29_withoutALaw() {
        dueByLaw(0);
    }

    @Says({"1 a LOOP,", "By LAW 1 it goes on by a STEP back to START (if that is one);",
        "Each STEP taken counts (not that back to START); TOO LONG: more than told."})
    static void p29_aLoop() {
        dueByLaw(1);
    }

    @Says({"2 MONOTONE,", "LAW 2: the LIST being MONOTONE (looked at from STEP to STEP)."})
    static void p29_monotone() {
        dueByLaw(2);
    }

    @Says({"3 OPPOSITE)", "LAW 3 likewise, the LIST being OPPOSITE;"})
    static void p29_opposite() {
        dueByLaw(3);
    }

    @Says("(It stays then.)")
    static void p29_itStaysWhereNothingIsFound() {
        for (int law = 0; law < 4; law++) {
            int by = law;
            Edges.stays("none", Edges.lists("bits 3 levels 0 to 1 start 1:012;"),
                x -> x.finds(0, by, 50000), -1);
            Edges.stays("too long", Edges.lists("bits 5 start 1:012;"),
                x -> x.finds(0, by, 30), -3);
            Edges.stays("refused", Edges.lists("bits 5 start 1:012;"),
                x -> x.finds(0, by, 50001), -2);
        }
    }

    // ---- promise 30

    /** What the document says of EXTENDED, put together part by part. */
    static String extended(String loop, int n, long cuts) {
        StringBuilder made = new StringBuilder();
        int m = loop.length();
        int from = 0;
        int parts = 0;
        for (int place = 0; place < m; place++) {
            boolean last = place == m - 1;
            if (last || (cuts >> place & 1) == 1) {
                String on = loop.substring(from, place);
                int one = parts % 2 == 0 ? n : n + 1;
                int other = parts % 2 == 0 ? n + 1 : n;
                made.append(on).append(one).append(back(on)).append(other).append(on);
                made.append(last ? "" : loop.substring(place, place + 1));
                from = place + 1;
                parts++;
            }
        }
        return made.append(n).append(back(loop.substring(0, m - 1))).append(n + 1).toString();
    }

    static int unevenness(String steps, int n) {
        int[] turns = new int[n];
        for (int i = 0; i < steps.length(); i++) {
            turns[steps.charAt(i) - '0']++;
        }
        int most = turns[0];
        int least = turns[0];
        for (int many : turns) {
            most = Math.max(most, many);
            least = Math.min(least, many);
        }
        return most - least;
    }

    private static final String[] WHOLE_LOOPS = {
        "00", "0101", "01020102", "01210121", "20102010", "02010201",
    };

    private interface CutLoop {
        void looked(Sample loop, long cuts, OneAtATime x);
    }

    /** Every loop, extended by all cuts that are evenly many. */
    private static void eachExtended(CutLoop look) {
        for (String steps : WHOLE_LOOPS) {
            int n = steps.contains("2") ? 3 : steps.contains("1") ? 2 : 1;
            Sample loop = new Sample(n, 0, n, n - 1, steps);
            for (long cuts = 0; cuts < 1L << loop.size - 1; cuts++) {
                if (Long.bitCount(cuts) % 2 == 0) {
                    OneAtATime x = with(loop);
                    due(loop, "extend " + cuts, x.extend(0, cuts), n + 2);
                    look.looked(loop, cuts, x);
                }
            }
        }
    }

    @Says({"EXTENDED by cuts (bits of places): N then.",
        "extended by two bits so that it is cut as one likes;"})
    static void p30_byAllCuts() {
        eachExtended((loop, cuts, x) -> {
            Sample want = new Sample(loop.n + 2, 0, loop.n + 2, loop.start,
                extended(loop.steps, loop.n, cuts));
            dueList(loop, "extend " + cuts, x, want);
            due(loop, "full " + cuts, x.is(0, 2), 1);
        });
        String wide = Edges.reflected(6);
        String steps = wide.substring(wide.indexOf(':') + 1, wide.length() - 1);
        for (long cuts : new long[] {0L, 5L, 1L << 62 | 1L << 31, 0x5555555555555555L}) {
            OneAtATime x = Edges.with(wide);
            Edges.due("extend", x.extend(0, cuts), 8);
            Edges.dueText("extended by " + cuts, Edges.steps(x, 0), extended(steps, 6, cuts));
        }
    }

    /** How often steps go between the words of two places of a loop, whatever the new bits are. */
    private static int between(OneAtATime x, Sample loop, int place) {
        int all = (1 << loop.n) - 1;
        int one = loop.words[place];
        int two = loop.words[place + 1];
        int found = 0;
        for (int i = 0; i < x.look(0, 4); i++) {
            int from = x.word(0, i) & all;
            int to = x.word(0, i + 1) & all;
            found += from == one && to == two || from == two && to == one ? 1 : 0;
        }
        return found;
    }

    @Says({"EXTENDED: places of a LOOP of M STEPS, 0 .. M less 1, are cut behind those told in cuts"
        + " into parts, oddly many."})
    static void p30_cutBehindThoseTold() {
        eachExtended((loop, cuts, x) -> {
            // a step within a part is gone three times and back at the end, one at a cut but once
            for (int place = 0; place + 1 < loop.size && loop.n > 1; place++) {
                OneAtATime y = with(loop);
                y.extend(0, cuts);
                boolean cut = (cuts >> place & 1) == 1;
                due(loop, "cut by " + cuts + " behind " + place, between(y, loop, place),
                    cut ? 2 : 4);
            }
            // each part turns both new bits once, and so do those behind the last
            int parts = Long.bitCount(cuts) + 1;
            due(loop, "parts by " + cuts, x.turned(0, loop.n), parts + 1);
            due(loop, "parts by " + cuts, x.turned(0, loop.n + 1), parts + 1);
            due(loop, "oddly many", (x.turned(0, loop.n) - 1) % 2, 1);
        });
    }

    @Says("Bits N and N + 1 begin as 0.")
    static void p30_newBitsBeginAsZero() {
        eachExtended((loop, cuts, x) -> {
            due(loop, "bit N", x.word(0, 0) >> loop.n & 1, 0);
            due(loop, "bit N + 1", x.word(0, 0) >> loop.n + 1, 0);
        });
    }

    /** The words of all parts, one behind the other, as the document goes through them. */
    private static List<Integer> wordsOfParts(Sample loop, long cuts) {
        List<Integer> words = new ArrayList<>();
        int high = 0;
        int from = 0;
        int parts = 0;
        for (int place = 0; place < loop.size; place++) {
            if (place == loop.size - 1 || (cuts >> place & 1) == 1) {
                int one = 1 << loop.n + parts % 2;
                int other = 1 << loop.n + 1 - parts % 2;
                for (int i = from; i <= place; i++) {
                    words.add(loop.words[i] | high);
                }
                for (int i = place; i >= from; i--) {
                    words.add(loop.words[i] | high ^ one);
                }
                for (int i = from; i <= place; i++) {
                    words.add(loop.words[i] | high ^ one ^ other);
                }
                high ^= one ^ other;
                from = place + 1;
                parts++;
            }
        }
        return words;
    }

    @Says({"Part by part: its STEPS on, a bit, its STEPS back, the other bit, its STEPS on again"
        + " (the bits N, N + 1 in the first part, the other way round in the second, and so on in"
        + " turn), then, but behind the last part, the STEP to the next part."})
    static void p30_partByPart() {
        eachExtended((loop, cuts, x) -> {
            List<Integer> words = wordsOfParts(loop, cuts);
            due(loop, "places of parts by " + cuts, words.size(), 3 * loop.size);
            for (int place = 0; place < words.size(); place++) {
                due(loop, "word " + place + " by " + cuts, x.word(0, place), words.get(place));
            }
        });
    }

    @Says("Then bit N; all STEPS from the last place back to place 0; bit N + 1.")
    static void p30_thenAllBack() {
        eachExtended((loop, cuts, x) -> {
            int m = loop.size;
            due(loop, "steps by " + cuts, x.look(0, 4), 4 * m);
            due(loop, "bit N by " + cuts, x.step(0, 3 * m - 1), loop.n);
            for (int back = 0; back < m - 1; back++) {
                due(loop, "back by " + cuts, x.step(0, 3 * m + back), loop.bit(m - 2 - back));
            }
            due(loop, "bit N + 1 by " + cuts, x.step(0, 4 * m - 1), loop.n + 1);
        });
    }

    @Says("START stays; A is 0, B is N + 2.")
    static void p30_startAndLevels() {
        for (int n = 1; n <= 6; n++) {
            String text = Edges.reflected(n);
            for (int start = 0; start < 1 << n; start += n) {
                OneAtATime x = Edges.with(text);
                x.starts(0, start);
                Edges.due("extend", x.extend(0, 0L), n + 2);
                Edges.due("the start stays", x.look(0, 3), start);
                Edges.due("N", x.look(0, 0), n + 2);
                Edges.due("A", x.look(0, 1), 0);
                Edges.due("B", x.look(0, 2), n + 2);
            }
        }
    }

    // ---- promise 34

    private static int rolled(int word, int d, int n) {
        int made = 0;
        for (int b = 0; b < n; b++) {
            made |= (word >> b & 1) << (b + d) % n;
        }
        return made;
    }

    private record Tracked(int p, int r) implements Rule {
        @Override
        public boolean allows(Sample path) {
            if (path.size > p) {
                return false;
            }
            boolean allowed = path.size < p || path.last() == rolled(path.start, r, path.n);
            for (int place = 0; place <= path.size && place < p; place++) {
                for (int other = 0; other <= place; other++) {
                    for (int d = other == place ? 1 : 0; d < path.n; d++) {
                        allowed = allowed
                            && rolled(path.words[place], d, path.n) != path.words[other];
                    }
                }
            }
            return allowed;
        }

        @Override
        public Sample accepts(Sample path) {
            if (path.size != p) {
                return null;
            }
            StringBuilder steps = new StringBuilder();
            for (int block = 0; block < path.n; block++) {
                for (int i = 0; i < p; i++) {
                    steps.append((path.bit(i) + block * r) % path.n);
                }
            }
            return new Sample(path.n, path.a, path.b, path.start, steps.toString());
        }
    }

    @Says({"NONE: there are none such; -3: it is TOO LONG;",
        "Each STEP taken counts, the last one, too; TOO LONG: more than told; a STEP to START"
        + " rolled ahead of the last is none."})
    static void p34_theFirstThatIsFound() {
        int[][] steps = {{2, 1}, {3, 1}, {3, 2}, {4, 1}, {4, 3}, {5, 2}};
        int found = 0;
        for (int[] by : steps) {
            for (int start = 0; start < 1 << by[0]; start += by[0] > 4 ? 3 : 1) {
                for (int p = 1; p <= 6; p++) {
                    int many = p;
                    Sample before = new Sample(by[0], 0, 1, start, "0");
                    Found due = search(before, new Tracked(p, by[1]));
                    dueFound(before, due, (x, tries) -> x.tracks(0, many, by[1], tries));
                    found += due.list() == null ? 0 : 1;
                }
            }
        }
        Edges.due("some are found", found > 20 ? 1 : 0, 1);
    }

    private interface FoundTracks {
        void looked(Sample before, int p, int r, OneAtATime x);
    }

    /** Every start of some widths with the p and r for which there is such a list. */
    private static void eachTracked(FoundTracks look) {
        int[][] steps = {{3, 2}, {4, 2}, {5, 2}, {5, 4}, {5, 6}, {6, 4}, {7, 6}, {8, 4}};
        int found = 0;
        for (int[] by : steps) {
            for (int start = 1; start < 1 << by[0]; start += 1 + by[0] / 5 * 4) {
                Sample before = new Sample(by[0], 1, 2, start, "01");
                for (int r = 1; r < by[0]; r++) {
                    OneAtATime x = with(before);
                    if (x.tracks(0, by[1], r, 2000) > 0) {
                        look.looked(before, by[1], r, x);
                        found++;
                    }
                }
            }
        }
        Edges.due("lists are found", found > 100 ? 1 : 0, 1);
    }

    @Says({"TRACKED: p STEPS are searched and told N times, the bits rolled by r each time: how"
        + " many STEPS there are.",
        "told again N less 1 times, the bits each time r more modulo N."})
    static void p34_toldNTimesTheBitsRolled() {
        eachTracked((before, p, r, x) -> {
            due(before, "steps", x.look(0, 4), before.n * p);
            due(before, "the answer again", x.tracks(0, p, r, 50000), before.n * p);
            for (int i = 0; i < p * (before.n - 1); i++) {
                due(before, "step " + (i + p), x.step(0, i + p), (x.step(0, i) + r) % before.n);
            }
            due(before, "the start", x.look(0, 3), before.start);
            due(before, "A", x.look(0, 1), before.a);
            due(before, "B", x.look(0, 2), before.b);
        });
    }

    @Says({"to WORDS none of which (START, too) is another one of them, or itself, rolled (bit b to"
        + " b and d modulo N, d 1 .. N less 1), the last to START rolled by r;"})
    static void p34_noneIsAnotherOneRolled() {
        eachTracked((before, p, r, x) -> {
            for (int place = 0; place < p; place++) {
                for (int other = 0; other <= place; other++) {
                    for (int d = other == place ? 1 : 0; d < before.n; d++) {
                        boolean one = rolled(x.word(0, place), d, before.n) == x.word(0, other);
                        due(before, place + " is " + other + " rolled by " + d, one ? 1 : 0, 0);
                    }
                }
            }
            due(before, "the last", x.word(0, p), rolled(before.start, r, before.n));
        });
    }

    @Says({"TRACKED: from START on p STEPS, the least bit first,"})
    static void p34_noLesserStepsWouldDo() {
        eachTracked((before, p, r, x) -> {
            if (before.n <= 5 && p <= 4) {
                Found due = search(before, new Tracked(p, r));
                dueList(before, "tracks " + p + " by " + r, x, due.list());
            }
        });
    }

    @Says("tracks that are one another rolled,")
    static void p34_whatIsFoundIsOfOneTrack() {
        for (int r : new int[] {1, 2, 3, 4}) {
            OneAtATime x = Edges.with("bits 5 start 1:;");
            Edges.due("tracks by " + r, x.tracks(0, 6, r, 50000), 30);
            Edges.due("a loop", x.is(0, 0), 1);
            Edges.due("clean", x.is(0, 1), 1);
            Edges.due("of one track", x.is(0, 6), 1);
        }
    }

    @Says("(The LIST stays then.)")
    static void p34_theListStaysWhereNothingIsFound() {
        Edges.Setup made = Edges.lists("bits 4 start 1:0123;");
        Edges.stays("none such", made, x -> x.tracks(0, 4, 1, 6), -1);
        Edges.stays("too long", made, x -> x.tracks(0, 4, 1, 5), -3);
        Edges.stays("above 256", made, x -> x.tracks(0, 65, 1, 5), -5);
        Edges.stays("refused", made, x -> x.tracks(0, 4, 2, 5), -2);
    }

    // ---- promise 35

    @Says({"Into a SLOT comes the PRODUCT of two LISTS: how many STEPS.",
        "PRODUCT: bits of the other LIST lie behind those of the one (by N more); all STEPS of the"
        + " one, a STEP of the other one, all STEPS of the one back, the next STEP of the other"
        + " one, and so on, at the end all of the one once more (on or back).",
        "A is 0, B is N."})
    static void p35_onAStepBackAStep() {
        int made = 0;
        for (Sample one : Sample.some()) {
            for (Sample two : Sample.some()) {
                int size = one.size * (two.size + 1) + two.size;
                if (one.n + two.n <= 8 && size <= 100 && one.size <= 9 && two.size <= 9) {
                    dueProduct(one, two);
                    made++;
                }
            }
        }
        Edges.due("products", made > 100 ? 1 : 0, 1);
    }

    private static void dueProduct(Sample one, Sample two) {
        StringBuilder steps = new StringBuilder(one.steps);
        for (int i = 0; i < two.size; i++) {
            steps.append(two.bit(i) + one.n);
            steps.append(i % 2 == 0 ? back(one.steps) : one.steps);
        }
        int n = one.n + two.n;
        Sample want = new Sample(n, 0, n, one.start + two.start * (1 << one.n), steps.toString());
        OneAtATime x = Edges.with(one.text(), two.text());
        due(one, "product with " + two.text(), x.product(0, 1, 2), want.size);
        Edges.dueText("product of " + one.text() + " and " + two.text(), Edges.list(x, 2),
            want.list());
    }

    // ---- promise 36

    @Says({"A TWIST: the WORDS at places i and 1 to j are turned round (i below j, j below STEPS),"
        + " so that the one at i is followed by that at j, that at i and 1 by that at j and 1: how"
        + " many STEPS there are."})
    static void p36_wordsTurnedRound() {
        int twisted = 0;
        for (Sample s : Sample.some()) {
            for (int i = 0; i < s.size && s.size <= 30; i++) {
                for (int j = i + 1; j < s.size; j++) {
                    OneAtATime x = with(s);
                    boolean can = Sample.unlike(s.words[i], s.words[j]) == 1
                        && Sample.unlike(s.words[i + 1], s.words[j + 1]) == 1;
                    due(s, "twists " + i + " " + j, x.twists(0, i, j), can ? s.size : -6);
                    for (int place = 0; place <= s.size; place++) {
                        boolean round = can && place > i && place <= j;
                        due(s, "word " + place, x.word(0, place),
                            s.words[round ? i + 1 + j - place : place]);
                    }
                    twisted += can && j > i + 1 ? 1 : 0;
                }
            }
        }
        Edges.due("some can be twisted", twisted > 50 ? 1 : 0, 1);
    }

    // ---- promise 38

    @Says({"A STEP (the i-th, from 0) becomes three: a bit, it, the bit again: how many STEPS"
        + " there are."})
    static void p38_oneStepBecomesThree() {
        for (Sample s : Sample.some()) {
            for (int i = 0; i < s.size; i += 2) {
                for (int bit = 0; bit < s.n; bit++) {
                    OneAtATime x = with(s);
                    due(s, "detour", x.detour(0, i, bit), s.size + 2);
                    dueList(s, "detour", x, new Sample(s.n, s.a, s.b, s.start,
                        s.steps.substring(0, i) + bit + s.steps.charAt(i) + bit
                        + s.steps.substring(i + 1)));
                }
            }
        }
    }

    // ---- promises 39 to 43

    /** All words with a bit at another place, and no word with any other change. */
    private static void dueRenamed(Sample s, String call, OneAtATime x, int[] names) {
        for (int place = 0; place <= s.size; place++) {
            int word = 0;
            for (int bit = 0; bit < s.n; bit++) {
                word |= s.bitAt(place, bit) << names[bit];
            }
            due(s, "word " + place + " behind " + call, x.word(0, place), word);
        }
        due(s, "steps behind " + call, x.look(0, 4), s.size);
        due(s, "A behind " + call, x.look(0, 1), s.a);
        due(s, "B behind " + call, x.look(0, 2), s.b);
    }

    @Says({"Bit 0 changes places with bit N less 1, 1 with N less 2, and so on, in all WORDS: the"
        + " START then."})
    static void p39_inAllWords() {
        for (Sample s : Sample.some()) {
            int[] names = new int[s.n];
            for (int bit = 0; bit < s.n; bit++) {
                names[bit] = s.n - 1 - bit;
            }
            OneAtATime x = with(s);
            due(s, "mirror", x.mirror(0), x.word(0, 0));
            dueRenamed(s, "mirror", x, names);
        }
    }

    @Says("The START becomes a WORD: what it was.")
    static void p40_theStartAlone() {
        for (Sample s : Sample.some()) {
            for (int word = 0; word < 1 << s.n; word += s.n) {
                OneAtATime x = with(s);
                due(s, "starts", x.starts(0, word), s.start);
                dueList(s, "starts", x, new Sample(s.n, s.a, s.b, word, s.steps));
                due(s, "the last word", x.word(0, s.size), s.last() ^ s.start ^ word);
            }
        }
    }

    @Says("Two bits change places in all WORDS (START, STEPS): how many STEPS are others.")
    static void p41_inAllWords() {
        for (Sample s : Sample.some()) {
            for (int a = 0; a < s.n; a++) {
                for (int b = 0; b < s.n; b++) {
                    int[] names = {0, 1, 2, 3, 4, 5, 6, 7};
                    names[a] = b;
                    names[b] = a;
                    OneAtATime x = with(s);
                    int answer = x.swaps(0, a, b);
                    int others = 0;
                    for (int i = 0; i < s.size; i++) {
                        others += x.step(0, i) == s.bit(i) ? 0 : 1;
                    }
                    due(s, "swaps " + a + " " + b, answer, others);
                    dueRenamed(s, "swaps", x, names);
                }
            }
        }
    }

    @Says({"The other way round: the last WORD is the START: it.", "turned round,"})
    static void p42_theLastWordFirst() {
        for (Sample s : Sample.some()) {
            OneAtATime x = with(s);
            due(s, "reverse", x.reverse(0), s.last());
            dueList(s, "reverse", x, new Sample(s.n, s.a, s.b, s.last(), back(s.steps)));
            for (int place = 0; place <= s.size; place++) {
                due(s, "word " + place, x.word(0, place), s.words[s.size - place]);
            }
        }
    }

    @Says({"A LOOP begins at a place (0 .. STEPS less 1): the START then.", "rolled,"})
    static void p43_fromEachPlace() {
        for (Sample s : Sample.some()) {
            for (int place = 0; place < s.size; place++) {
                OneAtATime x = with(s);
                due(s, "rolls " + place, x.rolls(0, place), s.loop ? s.words[place] : -6);
                for (int i = 0; s.loop && i <= s.size; i++) {
                    due(s, "word " + i, x.word(0, i), s.words[(place + i) % s.size]);
                }
            }
        }
    }

    // ---- promises 44, 45, 47

    @Says("A STEP more at the end: the last WORD then.")
    static void p44_oneStepMore() {
        for (Sample s : Sample.some()) {
            for (int bit = 0; bit < s.n; bit++) {
                OneAtATime x = with(s);
                due(s, "adds " + bit, x.adds(0, bit), s.last() ^ 1 << bit);
                dueList(s, "adds " + bit, x, new Sample(s.n, s.a, s.b, s.start, s.steps + bit));
            }
        }
    }

    @Says("The last n STEPS go: how many there are.")
    static void p45_theLastGo() {
        for (Sample s : Sample.some()) {
            for (int n = 1; n <= s.size; n++) {
                OneAtATime x = with(s);
                due(s, "cuts " + n, x.cuts(0, n), s.size - n);
                dueList(s, "cuts " + n, x,
                    new Sample(s.n, s.a, s.b, s.start, s.steps.substring(0, s.size - n)));
            }
        }
    }

    @Says("A SLOT has nothing any more: 1 if it had a LIST, else 0.")
    static void p47_nothingAnyMore() {
        for (int slot = 0; slot < 3; slot++) {
            OneAtATime x = Edges.with(Edges.GRAY3, Edges.LADDER3, "bits 1 start 0:;");
            Edges.due("drops", x.drops(slot), 1);
            Edges.due("slots", x.count(0), 7 - (1 << slot));
            Edges.due("look", x.look(slot, 0), -2);
            Edges.due("drops", x.drops(slot), 0);
        }
    }

    // ---- promise 48

    @Says({"The latest act is undone: how many can be.",
        "The latest 10 can be undone one by one (SLOTS as they were)."})
    static void p48_oneByOneAsTheyWere() {
        OneAtATime x = Edges.with("bits 2 start 0:0101;", "bits 1 start 1:0;");
        List<Edges.Call> acts = tenActs();
        List<String> before = new ArrayList<>();
        for (Edges.Call act : acts) {
            before.add(slots(x));
            act.on(x);
        }
        Edges.due("acts", x.count(1), 10);
        for (int left = 9; left >= 0; left--) {
            Edges.due("undo", x.undo(), left);
            Edges.dueText("slots ahead of act " + left, slots(x), before.get(left));
        }
        Edges.due("none", x.undo(), -1);
    }

    private static List<Edges.Call> tenActs() {
        return List.of(y -> y.rolls(0, 1), y -> y.product(1, 1, 2), y -> y.detour(2, 0, 1),
            y -> y.drops(1), y -> y.mirror(0), y -> y.cuts(2, 2), y -> y.starts(2, 2),
            y -> y.adds(0, 1), y -> y.reverse(2), y -> y.drops(0));
    }

    private static String slots(OneAtATime x) {
        return Edges.list(x, 0) + " | " + Edges.list(x, 1) + " | " + Edges.list(x, 2);
    }

    @Says({"ACTS: told(), makes(), finds(), starts(), swaps(), reverse(), rolls(), mirror(),"
        + " tracks(), twists(), detour(), product() by which a SLOT becomes otherwise (N, A, B,"
        + " START, STEPS),"})
    static void p48_whereNothingBecomesOtherwiseThereIsNoAct() {
        Edges.Setup gray = Edges.lists(Edges.GRAY3);
        Edges.stays("told", gray, x -> TapeWriter.tells(x, 0, Edges.GRAY3), 8);
        Edges.stays("makes", gray, x -> x.makes(0, 0), 8);
        Edges.stays("finds", gray, x -> x.finds(0, 1, 7), 8);
        Edges.stays("starts", gray, x -> x.starts(0, 0), 0);
        Edges.stays("swaps", gray, x -> x.swaps(0, 1, 1), 0);
        Edges.stays("reverse", Edges.lists("bits 2 start 1:0110;"), x -> x.reverse(0), 1);
        Edges.stays("rolls", gray, x -> x.rolls(0, 0), 0);
        Edges.stays("mirror", Edges.lists("bits 3 start 5:111;"), x -> x.mirror(0), 5);
        Edges.stays("tracks", Edges.lists("bits 3 start 1:102102;"),
            x -> x.tracks(0, 2, 1, 5), 6);
        Edges.stays("twists", gray, x -> x.twists(0, 2, 3), 8);
        Edges.stays("product", Edges.lists("bits 2 start 1:0;", "bits 1 start 1:;",
            "bits 3 start 5:0;"), x -> x.product(0, 1, 2), 1);
        // a detour has two steps more, so that it is always otherwise
        Edges.isAct("detour", gray, x -> x.detour(0, 0, 0), 10);
    }

    @Says("extend(), adds(), cuts(), drops() of one that had a LIST.")
    static void p48_theseAreActsAlways() {
        Edges.Setup made = Edges.lists("bits 2 start 0:0101;");
        Edges.isAct("extend", made, x -> x.extend(0, 5L), 4);
        Edges.isAct("adds", made, x -> x.adds(0, 1), 2);
        Edges.isAct("cuts", made, x -> x.cuts(0, 4), 0);
        Edges.isAct("drops", made, x -> x.drops(0), 1);
        OneAtATime x = Edges.fresh(made);
        Edges.due("drops of one that has nothing", x.drops(1), 0);
        Edges.due("is none", x.count(1), 1);
    }
}
