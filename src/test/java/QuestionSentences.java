import java.util.ArrayList;
import java.util.List;
import java.util.Set;
import java.util.TreeSet;

/** What the promises that ask say of any list: 7 to 27, 31 to 33, 37 and 46. */
final class QuestionSentences {
    private QuestionSentences() {
    }

    private static OneAtATime with(Sample sample) {
        return Edges.with(sample.text());
    }

    private static void due(Sample sample, String call, long got, long want) {
        Edges.due(call + " of " + sample.text(), got, want);
    }

    private static int asNumber(boolean holds) {
        return holds ? 1 : 0;
    }

    // ---- promise 7

    @Says({"Of a LIST, what 0: N, 1: A, 2: B, 3: the START, 4: STEPS, 5: SHOWN places, 6: unlike"
        + " WORDS that are SHOWN, 7: WORDS of the SCOPE."})
    static void p07_eachWhatByItsNumber() {
        // eight answers that are all unlike
        OneAtATime x = Edges.with("bits 7 levels 2 to 5 start 100:01010101010;");
        int[] want = {7, 2, 5, 100, 11, 12, 4, 21 + 35 + 35 + 21};
        for (int what = 0; what < 8; what++) {
            Edges.due("look " + what, x.look(0, what), want[what]);
        }
        for (Sample s : Sample.some()) {
            OneAtATime y = with(s);
            int[] due = {s.n, s.a, s.b, s.start, s.size, s.shown, s.shownWords().size(),
                s.scopeSize()};
            for (int what = 0; what < 8; what++) {
                due(s, "look " + what, y.look(0, what), due[what]);
            }
        }
    }

    // ---- promise 8

    @Says({"What a LIST is, what 0: a LOOP, 1: CLEAN, 2: FULL, 3: MONOTONE, 4: a SNAKE, 5:"
        + " OPPOSITE, 6: of ONE TRACK: 1, else 0."})
    static void p08_eachWhatByItsNumber() {
        Set<Integer> met = new TreeSet<>();
        for (Sample s : Sample.some()) {
            OneAtATime x = with(s);
            boolean[] due = {s.loop, s.clean(), s.full(), s.monotone(), s.snake(), s.opposite(),
                s.oneTrack()};
            for (int what = 0; what < 7; what++) {
                due(s, "is " + what, x.is(0, what), asNumber(due[what]));
                met.add(what * 2 + asNumber(due[what]));
            }
        }
        Edges.due("answers met, 0 and 1 of each", met.size(), 14);
    }

    // ---- promises 9 to 12

    @Says({"The WORD at a place (0 .. STEPS).", "LIST: a START and STEPS",
        "each turns a bit: WORDS at places 0 .. STEPS, that at 0 the START."})
    static void p09_theWordAtEachPlace() {
        for (Sample s : Sample.some()) {
            OneAtATime x = with(s);
            for (int place = 0; place <= s.size; place++) {
                due(s, "word " + place, x.word(0, place), s.words[place]);
            }
        }
    }

    @Says("The bit that the i-th STEP (from 0) turns.")
    static void p10_theBitThatEachStepTurns() {
        for (Sample s : Sample.some()) {
            OneAtATime x = with(s);
            for (int i = 0; i < s.size; i++) {
                due(s, "step " + i, x.step(0, i), s.bit(i));
                due(s, "turns one bit", x.word(0, i) ^ x.word(0, i + 1), 1 << s.bit(i));
            }
        }
    }

    @Says("The k-th (from 0) SHOWN place of a WORD.")
    static void p11_eachShownPlaceInTurn() {
        for (Sample s : Sample.some()) {
            OneAtATime x = with(s);
            for (int word : s.shownWords()) {
                int k = 0;
                for (int place = 0; place < s.shown; place++) {
                    if (s.words[place] == word) {
                        due(s, "where " + word + " " + k, x.where(0, word, k), place);
                        k++;
                    }
                }
                due(s, "where " + word + " " + k, x.where(0, word, k), -1);
            }
        }
    }

    @Says({"The k-th WORD (from 0, by number) of the SCOPE that is not SHOWN.",
        "SCOPE: WORDS of LEVELS A .. B."})
    static void p12_eachLackedWordByNumber() {
        for (Sample s : Sample.some()) {
            OneAtATime x = with(s);
            int k = 0;
            for (int word = 0; word < 1 << s.n; word++) {
                if (s.inScope(word) && !s.shownWords().contains(word)) {
                    due(s, "lacks " + k, x.lacks(0, k), word);
                    k++;
                }
            }
            due(s, "lacks " + k, x.lacks(0, k), -1);
        }
    }

    // ---- promises 13 to 16

    @Says("How many STEPS turn a bit.")
    static void p13_howManyStepsTurnEachBit() {
        for (Sample s : Sample.some()) {
            OneAtATime x = with(s);
            for (int bit = 0; bit < s.n; bit++) {
                due(s, "turned " + bit, x.turned(0, bit), s.turns(bit));
            }
        }
    }

    @Says("The k-th bit (from 0) by how often it is turned, the most first,")
    static void p14_theMostFirst() {
        for (Sample s : Sample.some()) {
            OneAtATime x = with(s);
            Set<Integer> met = new TreeSet<>();
            for (int k = 0; k < s.n; k++) {
                int bit = x.order(0, k);
                met.add(bit);
                if (k > 0) {
                    int ahead = x.order(0, k - 1);
                    boolean behind = s.turns(ahead) > s.turns(bit)
                        || s.turns(ahead) == s.turns(bit) && ahead < bit;
                    due(s, "order " + k + " is behind", asNumber(behind), 1);
                }
            }
            due(s, "bits in order", met.size(), s.n);
        }
    }

    @Says("How often the bit that is turned most is more than that which is least.")
    static void p15_theMostLessTheLeast() {
        for (Sample s : Sample.some()) {
            int widest = 0;
            for (int one = 0; one < s.n; one++) {
                for (int two = 0; two < s.n; two++) {
                    widest = Math.max(widest, s.turns(one) - s.turns(two));
                }
            }
            due(s, "uneven", with(s).uneven(0), widest);
        }
    }

    /** Steps on from each step to the next of its bit; -1 if there is none. */
    private static int gapOf(Sample s, int bit) {
        int fewest = -1;
        for (int from = 0; from < s.size; from++) {
            int reach = s.loop ? s.size : s.size - 1 - from;
            for (int on = 1; s.bit(from) == bit && on <= reach; on++) {
                if (s.bit((from + on) % s.size) == bit && (fewest < 0 || on < fewest)) {
                    fewest = on;
                }
            }
        }
        return fewest;
    }

    @Says({"The fewest STEPS from one that turns a bit to the next one that turns it (of a LOOP"
        + " going round, too), of any bit (bit NONE) or of one."})
    static void p16_theFewestStepsToTheNext() {
        for (Sample s : Sample.some()) {
            OneAtATime x = with(s);
            int fewest = -1;
            for (int bit = 0; bit < s.n; bit++) {
                int gap = gapOf(s, bit);
                due(s, "gap " + bit, x.gap(0, bit), gap);
                fewest = fewest < 0 || gap >= 0 && gap < fewest ? gap : fewest;
            }
            due(s, "gap of any", x.gap(0, OneAtATime.NONE), fewest);
        }
    }

    // ---- promises 17 to 19

    /** How many places from this one on, one behind the other, a bit is v; all at most. */
    private static int rowFrom(Sample s, int place, int bit, int v) {
        int row = 0;
        while (row < s.shown && (s.loop || place + row < s.shown)
            && s.bitAt((place + row) % s.shown, bit) == v) {
            row++;
        }
        return row;
    }

    @Says({"The longest row of SHOWN places one behind the other (of a LOOP going round, too; all"
        + " at most) in which a bit is v (0, 1): how many."})
    static void p17_theLongestRow() {
        for (Sample s : Sample.some()) {
            OneAtATime x = with(s);
            for (int bit = 0; bit < s.n; bit++) {
                for (int v = 0; v < 2; v++) {
                    int longest = 0;
                    for (int place = 0; place < s.shown; place++) {
                        longest = Math.max(longest, rowFrom(s, place, bit, v));
                    }
                    due(s, "run " + bit + " " + v, x.run(0, bit, v), longest);
                }
            }
        }
    }

    @Says({"Into how many rows of places one behind the other (of a LOOP going round) those SHOWN"
        + " places fall at which a bit is v (0, 1)."})
    static void p18_intoHowManyRows() {
        for (Sample s : Sample.some()) {
            OneAtATime x = with(s);
            for (int bit = 0; bit < s.n; bit++) {
                for (int v = 0; v < 2; v++) {
                    int ends = 0;
                    for (int place = 0; place < s.shown; place++) {
                        boolean goesOn = place + 1 < s.shown ? s.bitAt(place + 1, bit) == v
                            : s.loop && s.bitAt(0, bit) == v;
                        ends += s.bitAt(place, bit) == v && !goesOn ? 1 : 0;
                    }
                    boolean allRound = rowFrom(s, 0, bit, v) == s.shown;
                    due(s, "parts " + bit + " " + v, x.parts(0, bit, v), allRound ? 1 : ends);
                }
            }
        }
    }

    @Says({"The first (last 0), the last (1) SHOWN place with a WORD of LEVEL l (0 .. N).",
        "LEVEL: how many bits are 1."})
    static void p19_theFirstAndTheLastOfALevel() {
        for (Sample s : Sample.some()) {
            OneAtATime x = with(s);
            for (int l = 0; l <= s.n; l++) {
                int first = -1;
                int last = -1;
                for (int place = 0; place < s.shown; place++) {
                    if (Sample.level(s.words[place]) == l) {
                        first = first < 0 ? place : first;
                        last = place;
                    }
                }
                due(s, "first of level " + l, x.level(0, l, 0), first);
                due(s, "last of level " + l, x.level(0, l, 1), last);
            }
        }
    }

    // ---- promises 20 to 24

    @Says("At how many places (0 .. the fewer STEPS) two LISTS have one WORD.")
    static void p20_atHowManyPlaces() {
        List<Sample> some = Sample.some();
        for (int i = 0; i < some.size(); i++) {
            Sample one = some.get(i);
            Sample two = some.get((i + 7) % some.size());
            int found = 0;
            for (int place = 0; place <= Math.min(one.size, two.size); place++) {
                found += one.words[place] == two.words[place] ? 1 : 0;
            }
            OneAtATime x = Edges.with(one.text(), two.text());
            due(one, "same as " + two.text(), x.same(0, 1), found);
            due(one, "same the other way", x.same(1, 0), found);
            due(one, "same with itself", x.same(0, 0), one.size + 1);
        }
    }

    @Says({"By how many places (0 and more, the fewest) the TRACK of a bit is that of bit 0"
        + " rolled.", "TRACK of a bit: what it is at SHOWN places;",
        "(by d: at place i what that one is at i and d, going round)."})
    static void p21_theFewestPlaces() {
        // of 0 1 3 2 bit 0 is 0 1 1 0 and bit 1 0 0 1 1: at 0 what that one is at 3
        Edges.due("shift", Edges.with("bits 2 start 0:0101;").shift(0, 1), 3);
        for (Sample s : Sample.some()) {
            OneAtATime x = with(s);
            for (int bit = 0; bit < s.n; bit++) {
                due(s, "shift " + bit, x.shift(0, bit), s.rolledBy(bit));
            }
        }
    }

    @Says("How many bits two WORDS at places (0 .. STEPS) have unlike.")
    static void p22_howManyBitsAreUnlike() {
        for (Sample s : Sample.some()) {
            for (int place = 0; place <= s.size; place++) {
                OneAtATime x = with(s);
                for (int other = 0; other <= s.size; other++) {
                    due(s, "apart " + place + " " + other, x.apart(0, place, other),
                        Sample.unlike(s.words[place], s.words[other]));
                }
            }
        }
    }

    private static boolean spreads(Sample s, int k) {
        boolean spreads = true;
        for (int one = 0; one < s.shown; one++) {
            for (int two = one + 1; two < s.shown; two++) {
                spreads = spreads
                    && (s.far(one, two) < k || Sample.unlike(s.words[one], s.words[two]) >= k);
            }
        }
        return spreads;
    }

    @Says({"The greatest k (1 .. N) so that WORDS at SHOWN places k apart or more (of a LOOP the"
        + " nearer way) have k bits unlike or more."})
    static void p23_theGreatestThatHolds() {
        Set<Integer> met = new TreeSet<>();
        for (Sample s : Sample.some()) {
            int greatest = -1;
            for (int k = 1; s.clean() && k <= s.n; k++) {
                greatest = spreads(s, k) ? k : greatest;
            }
            met.add(greatest);
            due(s, "spread", with(s).spread(0), greatest);
        }
        Edges.due("some are NONE, 1, 2, 3, 4, 8", asNumber(
            met.containsAll(List.of(-1, 1, 2, 3, 4, 8))), 1);
    }

    @Says("How many STEPS go from LEVEL l to LEVEL l and 1 (up 1), or back (0).")
    static void p24_howManyStepsGoUpAndBack() {
        for (Sample s : Sample.some()) {
            OneAtATime x = with(s);
            for (int l = 0; l < s.n; l++) {
                int up = 0;
                int back = 0;
                for (int i = 0; i < s.size; i++) {
                    int from = Sample.level(s.words[i]);
                    int to = Sample.level(s.words[i + 1]);
                    up += from == l && to == l + 1 ? 1 : 0;
                    back += from == l + 1 && to == l ? 1 : 0;
                }
                due(s, "climbs " + l, x.climbs(0, l, 1), up);
                due(s, "climbs back to " + l, x.climbs(0, l, 0), back);
            }
        }
    }

    // ---- promises 25 to 27

    @Says({"REFLECTED: the WORD with a number (0 and more).",
        "REFLECTED: number i is the WORD i xor (i shifted right by 1);"})
    static void p25_numberXorNumberShifted() {
        OneAtATime x = new OneAtATime();
        for (int i = 0; i < 300; i++) {
            Edges.due("code " + i, x.code(i), i ^ i / 2);
        }
        for (int i = 1; i < 100; i++) {
            int number = i * 21474836;
            Edges.due("code " + number, x.code(number), number ^ number / 2);
        }
    }

    @Says("REFLECTED: the number of a WORD (0 and more).")
    static void p26_theNumberOfEachWord() {
        OneAtATime x = new OneAtATime();
        for (int word = 0; word < 256; word++) {
            int number = 0;
            while ((number ^ number / 2) != word) {
                number++;
            }
            Edges.due("rank " + word, x.rank(word), number);
        }
        for (int i = 1; i < 100; i++) {
            int number = i * 21474836;
            Edges.due("rank", x.rank(number ^ number / 2), number);
        }
    }

    @Says("REFLECTED: the bit that the i-th STEP (from 1) turns.")
    static void p27_theBitBetweenTwoNumbers() {
        OneAtATime x = new OneAtATime();
        for (int i = 1; i < 300; i++) {
            int before = i - 1 ^ (i - 1) / 2;
            Edges.due("ruler " + i, 1L << x.ruler(i), before ^ i ^ i / 2);
        }
    }

    // ---- promises 31 to 33

    @Says({"Bits that a STEP at the end could turn to come to a WORD of the SCOPE that is not"
        + " SHOWN, as bits."})
    static void p31_bitsThatCouldBeTurned() {
        for (Sample s : Sample.some()) {
            int bits = 0;
            for (int bit = 0; bit < s.n; bit++) {
                int word = s.last() ^ 1 << bit;
                bits += s.inScope(word) && !s.shownWords().contains(word) ? 1 << bit : 0;
            }
            due(s, "open", with(s).open(0), bits);
        }
    }

    /** From a word to all: the way to each is made shorter as long as that can be done. */
    private static int[] waysFrom(Sample s, int word, int other) {
        int[] ways = new int[1 << s.n];
        java.util.Arrays.fill(ways, 1000);
        ways[word] = 0;
        for (boolean shorter = true; shorter;) {
            shorter = false;
            for (int to = 0; to < ways.length; to++) {
                boolean free = to == other || s.inScope(to) && !s.shownWords().contains(to);
                for (int bit = 0; free && bit < s.n; bit++) {
                    if (ways[to ^ 1 << bit] + 1 < ways[to]) {
                        ways[to] = ways[to ^ 1 << bit] + 1;
                        shorter = true;
                    }
                }
            }
        }
        return ways;
    }

    @Says({"The fewest STEPS from a WORD to another one by WORDS of the SCOPE that are not SHOWN"
        + " (these two aside; 0: they are one)."})
    static void p32_theFewestSteps() {
        int ways = 0;
        int none = 0;
        for (Sample s : Sample.some()) {
            OneAtATime x = with(s);
            int most = Math.min(1 << s.n, 16);
            for (int word = 0; word < most; word++) {
                for (int other = 0; other < most; other++) {
                    int one = word * (1 << s.n) / most;
                    int two = ((1 << s.n) - 1) ^ other;
                    int way = waysFrom(s, one, two)[two];
                    due(s, "way " + one + " " + two, x.way(0, one, two), way == 1000 ? -1 : way);
                    ways += way < 1000 && way > 2 ? 1 : 0;
                    none += way == 1000 ? 1 : 0;
                }
            }
        }
        Edges.due("long ways and none are met", asNumber(ways > 100 && none > 100), 1);
    }

    /** Loops that show every word once: reflected ones, rolled, with other names, told back. */
    private static List<Sample> wholeLoops() {
        List<Sample> loops = new ArrayList<>();
        String[] all = {"00", "0101", "01020102", "01210121", "0102010301020103",
            "0313213102321323", "0121303123202103", "2320131231303231"};
        for (String steps : all) {
            int n = steps.chars().max().getAsInt() - '0' + 1;
            for (int from = 0; from < steps.length(); from += 3) {
                String rolled = steps.substring(from) + steps.substring(0, from);
                Sample loop = new Sample(n, 0, n, from % (1 << n), rolled);
                if (loop.loop && loop.full()) {
                    loops.add(loop);
                }
            }
        }
        return loops;
    }

    @Says({"Of all cuts by which a LIST can be EXTENDED those by which uneven() is least, of like"
        + " ones the least number, what 0: how much it is then, 1: the cuts."})
    static void p33_allCutsAreTried() {
        Edges.due("loops", wholeLoops().size(), 1 + 2 + 3 + 3 + 4 * 6);
        for (Sample s : wholeLoops()) {
            int least = 1000;
            long leastCuts = 0;
            for (long cuts = 0; cuts < 1L << s.size - 1; cuts++) {
                if (Long.bitCount(cuts) % 2 == 0) {
                    int uneven = ActSentences.unevenness(
                        ActSentences.extended(s.steps, s.n, cuts), s.n + 2);
                    if (uneven < least) {
                        least = uneven;
                        leastCuts = cuts;
                    }
                }
            }
            due(s, "how much", with(s).evenest(0, 0), least);
            due(s, "the cuts", with(s).evenest(0, 1), leastCuts);
            OneAtATime x = with(s);
            due(s, "extend", x.extend(0, x.evenest(0, 1)), s.n + 2);
            due(s, "uneven then", x.uneven(0), least);
        }
    }

    // ---- promise 37

    @Says("How many twos of places i, j can be TWISTED (i and 1 below j).")
    static void p37_asManyAsTwistsTakes() {
        for (Sample s : Sample.some()) {
            int taken = 0;
            for (int i = 0; i < s.size; i++) {
                OneAtATime x = with(s);
                for (int j = i + 2; j < s.size; j++) {
                    if (x.twists(0, i, j) >= 0) {
                        taken++;
                        x = with(s);
                    }
                }
            }
            due(s, "twistable", with(s).twistable(0), taken);
        }
    }

    // ---- promise 46

    private static String named(String steps) {
        StringBuilder first = new StringBuilder();
        StringBuilder named = new StringBuilder();
        for (char bit : steps.toCharArray()) {
            if (first.indexOf("" + bit) < 0) {
                first.append(bit);
            }
            named.append(first.indexOf("" + bit));
        }
        return named.toString();
    }

    private static boolean areAlike(Sample one, Sample two) {
        if (one.loop != two.loop) {
            return false;
        }
        boolean alike = named(one.steps).equals(named(two.steps));
        for (int from = 0; one.loop && from < two.size; from++) {
            String rolled = two.steps.substring(from) + two.steps.substring(0, from);
            String back = new StringBuilder(rolled).reverse().toString();
            alike = alike || named(rolled).equals(named(one.steps))
                || named(back).equals(named(one.steps));
        }
        return alike;
    }

    @Says({"1 if two LISTS are ALIKE, else 0.", "ALIKE: both are LOOPS, or none is; bits being"
        + " named by when they are turned first, STEPS are the same; of LOOPS from some place on,"
        + " on or back."})
    static void p46_likeAndUnlikeOnes() {
        int alike = 0;
        for (Sample one : Sample.some()) {
            if (one.size <= 16) {
                for (Sample two : Sample.some()) {
                    if (two.size == one.size || two.size == one.size + 1) {
                        OneAtATime x = Edges.with(one.text(), two.text());
                        due(one, "alike " + two.text(), x.alike(0, 1),
                            asNumber(areAlike(one, two)));
                        alike += areAlike(one, two) ? 1 : 0;
                    }
                }
            }
        }
        Edges.due("like ones are met", asNumber(alike > 100), 1);
    }

    @Says("alike but for names of bits;")
    static void p46_otherNamesAnotherPlaceAndBack() {
        for (Sample s : Sample.some()) {
            OneAtATime x = Edges.with(s.text(), s.text());
            x.mirror(1);
            x.starts(1, 0);
            due(s, "other names", x.alike(0, 1), 1);
            if (s.loop) {
                x.rolls(1, s.size / 2);
                due(s, "from another place", x.alike(0, 1), 1);
                x.reverse(1);
                due(s, "back", x.alike(0, 1), 1);
            }
        }
    }
}
