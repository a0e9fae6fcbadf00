import java.util.ArrayDeque;
import java.util.ArrayList;
import java.util.Arrays;
import java.util.Collections;
import java.util.Deque;
import java.util.HashMap;
import java.util.HashSet;
import java.util.LinkedHashMap;
import java.util.List;
import java.util.Map;
import java.util.Set;
import java.util.TreeSet;
import java.util.regex.Matcher;
import java.util.regex.Pattern;

/**
 * The document once more, written as near to its words as can be and without a thought of speed:
 * what ModelTests holds the class against.
 */
final class NaiveLists {
    private static final int NONE = -1;

    private record Told(int n, int a, int b, int start, List<Integer> steps) {
        List<Integer> words() {
            List<Integer> words = new ArrayList<>();
            int word = start;
            words.add(word);
            for (int bit : steps) {
                word ^= 1 << bit;
                words.add(word);
            }
            return words;
        }

        boolean loop() {
            return !steps.isEmpty() && words().get(steps.size()) == start;
        }

        List<Integer> shown() {
            List<Integer> words = words();
            return loop() ? words.subList(0, steps.size()) : words;
        }

        Set<Integer> scope() {
            Set<Integer> scope = new TreeSet<>();
            for (int word = 0; word < 1 << n; word++) {
                if (Integer.bitCount(word) >= a && Integer.bitCount(word) <= b) {
                    scope.add(word);
                }
            }
            return scope;
        }

        String track(int bit) {
            StringBuilder track = new StringBuilder();
            for (int word : shown()) {
                track.append(word >> bit & 1);
            }
            return track.toString();
        }

        Told with(int newStart, List<Integer> newSteps) {
            return new Told(n, a, b, newStart, List.copyOf(newSteps));
        }

        List<Integer> turns() {
            List<Integer> turns = new ArrayList<>();
            for (int bit = 0; bit < n; bit++) {
                turns.add(Collections.frequency(steps, bit));
            }
            return turns;
        }
    }

    private static final class TooLong extends RuntimeException {
        private static final long serialVersionUID = 1L;
    }

    private Told[] slots = new Told[3];
    private final Deque<Told[]> before = new ArrayDeque<>();
    private final List<Integer> tape = new ArrayList<>();
    private String out = "";
    private int fault = 0;
    private int place = NONE;

    private Told in(int slot) {
        return slot < 0 || slot > 2 ? null : slots[slot];
    }

    private static boolean flag(int v) {
        return v == 0 || v == 1;
    }

    private void becomes(int slot, Told list) {
        if (list == null ? slots[slot] == null : list.equals(slots[slot])) {
            return;
        }
        before.addLast(slots.clone());
        if (before.size() > 10) {
            before.removeFirst();
        }
        slots[slot] = list;
    }

    int feed(int a, int b, int c, int d, int e) {
        if (tape.size() + 20 > 400) {
            return NONE;
        }
        for (int number : new int[] {a, b, c, d, e}) {
            for (int by = 24; by >= 0; by -= 8) {
                tape.add(number >> by & 255);
            }
        }
        return tape.size();
    }

    int end(int n) {
        if (n < 0 || n > tape.size()) {
            return NONE;
        }
        tape.subList(n, tape.size()).clear();
        return n;
    }

    int told(int slot) {
        if (slot < 0 || slot > 2) {
            return -2;
        }
        StringBuilder text = new StringBuilder();
        for (int value : tape) {
            text.append((char) value);
        }
        tape.clear();
        fault = 0;
        place = NONE;
        Told list = parse(text.toString());
        if (list == null) {
            return -4;
        }
        becomes(slot, list);
        return list.steps().size();
    }

    private Told blame(int number, int at) {
        fault = number;
        place = at;
        return null;
    }

    private Told parse(String text) {
        List<String> tokens = new ArrayList<>();
        List<Integer> places = new ArrayList<>();
        Matcher matcher = Pattern.compile("(?s)[ \n]|[a-z]+|[0-9]+|.").matcher(text);
        while (matcher.find()) {
            if (!matcher.group().equals(" ") && !matcher.group().equals("\n")) {
                tokens.add(matcher.group());
                places.add(matcher.start());
            }
        }
        tokens.add("");
        places.add(text.length());
        List<String> form = new ArrayList<>(List.of("bits", "N"));
        if (tokens.size() > 2 && tokens.get(2).equals("levels")) {
            form.addAll(List.of("levels", "A", "to", "B"));
        }
        form.addAll(List.of("start", "S", ":"));
        int colon = form.size();
        if (tokens.size() > colon && tokens.get(colon).matches("[0-9]+")) {
            form.add("BITS");
        }
        form.addAll(List.of(";", ""));
        Map<String, Integer> values = new HashMap<>();
        List<Integer> steps = new ArrayList<>();
        for (int i = 0; i < form.size(); i++) {
            String due = form.get(i);
            String token = tokens.get(i);
            int at = places.get(i);
            boolean number = "N A B S BITS".contains(due) && !due.isEmpty();
            if (number ? !token.matches("[0-9]+") : !token.equals(due)) {
                return blame(1, at);
            }
            if (due.equals("BITS")) {
                for (int k = 0; k < token.length(); k++) {
                    int bit = token.charAt(k) - '0';
                    if (bit >= values.get("N")) {
                        return blame(3, at + k);
                    }
                    if (k == 256) {
                        return blame(4, at + k);
                    }
                    steps.add(bit);
                }
            } else if (number) {
                java.math.BigInteger value = new java.math.BigInteger(token);
                int least = due.equals("N") ? 1 : due.equals("B") ? values.get("A") : 0;
                int most = due.equals("N") ? 8
                    : due.equals("S") ? (1 << values.get("N")) - 1 : values.get("N");
                if (value.compareTo(java.math.BigInteger.valueOf(least)) < 0
                    || value.compareTo(java.math.BigInteger.valueOf(most)) > 0) {
                    return blame(2, at);
                }
                values.put(due, value.intValue());
            }
        }
        int n = values.get("N");
        return new Told(n, values.getOrDefault("A", 0), values.getOrDefault("B", n),
            values.get("S"), List.copyOf(steps));
    }

    int fault(int what) {
        return what == 0 ? fault : what == 1 ? place : NONE;
    }

    int count(int what) {
        int bits = 0;
        for (int i = 0; i < 3; i++) {
            bits += slots[i] == null ? 0 : 1 << i;
        }
        int[] answers = {bits, before.size(), tape.size(), out.length()};
        return what < 0 || what > 3 ? NONE : answers[what];
    }

    int look(int slot, int what) {
        Told list = in(slot);
        if (list == null || what < 0 || what > 7) {
            return -2;
        }
        int[] answers = {list.n(), list.a(), list.b(), list.start(), list.steps().size(),
            list.shown().size(), new HashSet<>(list.shown()).size(), list.scope().size()};
        return answers[what];
    }

    int is(int slot, int what) {
        Told list = in(slot);
        if (list == null || what < 0 || what > 6) {
            return -2;
        }
        boolean[] answers = {list.loop(), clean(list), full(list), monotone(list), snake(list),
            opposite(list), oneTrack(list)};
        return answers[what] ? 1 : 0;
    }

    private static boolean clean(Told list) {
        return new HashSet<>(list.shown()).size() == list.shown().size();
    }

    private static boolean full(Told list) {
        List<Integer> sorted = new ArrayList<>(list.shown());
        Collections.sort(sorted);
        return sorted.equals(new ArrayList<>(list.scope()));
    }

    private static boolean monotone(Told list) {
        List<Integer> words = list.words();
        List<Integer> rungs = new ArrayList<>();
        for (int i = 0; i + 1 < words.size(); i++) {
            rungs.add(Math.min(Integer.bitCount(words.get(i)), Integer.bitCount(words.get(i + 1))));
        }
        for (int i = 0; i < rungs.size(); i++) {
            for (int j = i + 1; j < rungs.size(); j++) {
                if (rungs.get(i) >= rungs.get(j) + 2) {
                    return false;
                }
            }
        }
        return true;
    }

    private static boolean snake(Told list) {
        List<Integer> shown = list.shown();
        for (int i = 0; i < shown.size(); i++) {
            for (int j = i + 1; j < shown.size(); j++) {
                boolean follow = j == i + 1 || list.loop() && i == 0 && j == shown.size() - 1;
                int unlike = Integer.bitCount(shown.get(i) ^ shown.get(j));
                if (unlike == 0 || !follow && unlike < 2) {
                    return false;
                }
            }
        }
        return true;
    }

    private static boolean opposite(Told list) {
        int m = list.steps().size();
        if (!list.loop() || m % 2 != 0) {
            return false;
        }
        List<Integer> shown = list.shown();
        for (int i = 0; i < m; i++) {
            if ((shown.get(i) ^ shown.get((i + m / 2) % m)) != (1 << list.n()) - 1) {
                return false;
            }
        }
        return true;
    }

    private static int rolledBy(Told list, int bit) {
        if (!list.loop()) {
            return NONE;
        }
        String zero = list.track(0);
        String track = list.track(bit);
        for (int d = 0; d < zero.length(); d++) {
            if (track.equals(zero.substring(d) + zero.substring(0, d))) {
                return d;
            }
        }
        return NONE;
    }

    private static boolean oneTrack(Told list) {
        for (int bit = 0; bit < list.n(); bit++) {
            if (rolledBy(list, bit) == NONE) {
                return false;
            }
        }
        return true;
    }

    int word(int slot, int at) {
        Told list = in(slot);
        if (list == null || at < 0) {
            return -2;
        }
        return at > list.steps().size() ? NONE : list.words().get(at);
    }

    int step(int slot, int i) {
        Told list = in(slot);
        if (list == null || i < 0) {
            return -2;
        }
        return i >= list.steps().size() ? NONE : list.steps().get(i);
    }

    private static boolean hasWord(Told list, int word) {
        return list != null && word >= 0 && word < 1 << list.n();
    }

    private static boolean hasBit(Told list, int bit) {
        return list != null && bit >= 0 && bit < list.n();
    }

    int where(int slot, int word, int k) {
        Told list = in(slot);
        if (!hasWord(list, word) || k < 0) {
            return -2;
        }
        List<Integer> places = new ArrayList<>();
        for (int i = 0; i < list.shown().size(); i++) {
            if (list.shown().get(i) == word) {
                places.add(i);
            }
        }
        return k < places.size() ? places.get(k) : NONE;
    }

    int lacks(int slot, int k) {
        Told list = in(slot);
        if (list == null || k < 0) {
            return -2;
        }
        List<Integer> lacked = new ArrayList<>(list.scope());
        lacked.removeAll(list.shown());
        return k < lacked.size() ? lacked.get(k) : NONE;
    }

    int turned(int slot, int bit) {
        Told list = in(slot);
        return hasBit(list, bit) ? list.turns().get(bit) : -2;
    }

    int order(int slot, int k) {
        Told list = in(slot);
        if (!hasBit(list, k)) {
            return -2;
        }
        List<Integer> bits = new ArrayList<>();
        for (int bit = 0; bit < list.n(); bit++) {
            bits.add(bit);
        }
        bits.sort((x, y) -> list.turns().get(y) - list.turns().get(x));
        return bits.get(k);
    }

    int uneven(int slot) {
        Told list = in(slot);
        return list == null ? -2 : unevenOf(list);
    }

    private static int unevenOf(Told list) {
        return Collections.max(list.turns()) - Collections.min(list.turns());
    }

    int gap(int slot, int bit) {
        Told list = in(slot);
        if (list == null || bit != NONE && !hasBit(list, bit)) {
            return -2;
        }
        int m = list.steps().size();
        int reach = list.loop() ? 2 * m : m;
        int best = NONE;
        for (int i = 0; i < m; i++) {
            for (int j = i + 1; j < reach; j++) {
                boolean sameBit = list.steps().get(i).equals(list.steps().get(j % m));
                boolean asked = bit == NONE || list.steps().get(i) == bit;
                if (sameBit && asked && (best == NONE || j - i < best)) {
                    best = j - i;
                }
            }
        }
        return best;
    }

    int run(int slot, int bit, int v) {
        Told list = in(slot);
        if (!hasBit(list, bit) || !flag(v)) {
            return -2;
        }
        String track = list.track(bit);
        String text = list.loop() ? track + track : track;
        int best = 0;
        for (String row : text.split(v == 1 ? "0+" : "1+")) {
            best = Math.max(best, row.length());
        }
        return Math.min(best, track.length());
    }

    int parts(int slot, int bit, int v) {
        Told list = in(slot);
        if (!hasBit(list, bit) || !flag(v)) {
            return -2;
        }
        String track = list.track(bit);
        char sign = (char) ('0' + v);
        int other = track.indexOf((char) ('1' - v));
        if (other < 0) {
            return 1;
        }
        if (list.loop()) {
            track = track.substring(other) + track.substring(0, other);
        }
        int rows = 0;
        for (int i = 0; i < track.length(); i++) {
            if (track.charAt(i) == sign && (i == 0 || track.charAt(i - 1) != sign)) {
                rows++;
            }
        }
        return rows;
    }

    int level(int slot, int l, int last) {
        Told list = in(slot);
        if (list == null || l < 0 || l > list.n() || !flag(last)) {
            return -2;
        }
        List<Integer> levels = new ArrayList<>();
        for (int word : list.shown()) {
            levels.add(Integer.bitCount(word));
        }
        return last == 1 ? levels.lastIndexOf(l) : levels.indexOf(l);
    }

    int same(int slot, int other) {
        Told one = in(slot);
        Told two = in(other);
        if (one == null || two == null) {
            return -2;
        }
        int found = 0;
        for (int i = 0; i <= Math.min(one.steps().size(), two.steps().size()); i++) {
            found += one.words().get(i).equals(two.words().get(i)) ? 1 : 0;
        }
        return found;
    }

    int shift(int slot, int bit) {
        Told list = in(slot);
        return hasBit(list, bit) ? rolledBy(list, bit) : -2;
    }

    int apart(int slot, int at, int other) {
        Told list = in(slot);
        if (list == null || at < 0 || other < 0 || at > list.steps().size()
            || other > list.steps().size()) {
            return -2;
        }
        return Integer.bitCount(list.words().get(at) ^ list.words().get(other));
    }

    int spread(int slot) {
        Told list = in(slot);
        if (list == null) {
            return -2;
        }
        int best = NONE;
        for (int k = 1; k <= list.n(); k++) {
            if (spreads(list, k)) {
                best = k;
            } else if (k == 1) {
                return NONE;
            }
        }
        return best;
    }

    private static boolean spreads(Told list, int k) {
        List<Integer> shown = list.shown();
        int m = shown.size();
        for (int i = 0; i < m; i++) {
            for (int j = i + 1; j < m; j++) {
                int far = list.loop() ? Math.min(j - i, i + m - j) : j - i;
                if (far >= k && Integer.bitCount(shown.get(i) ^ shown.get(j)) < k) {
                    return false;
                }
            }
        }
        return true;
    }

    int climbs(int slot, int l, int up) {
        Told list = in(slot);
        if (!hasBit(list, l) || !flag(up)) {
            return -2;
        }
        int found = 0;
        List<Integer> words = list.words();
        for (int i = 0; i < list.steps().size(); i++) {
            int one = Integer.bitCount(words.get(i));
            int two = Integer.bitCount(words.get(i + 1));
            found += up == 1 && one == l && two == l + 1 || up == 0 && one == l + 1 && two == l
                ? 1 : 0;
        }
        return found;
    }

    int code(int number) {
        return number < 0 ? -2 : number ^ number >>> 1;
    }

    int rank(int word) {
        if (word < 0) {
            return -2;
        }
        int number = 0;
        for (int bit = 30; bit >= 0; bit--) {
            number |= (word >> bit & 1 ^ number >> bit + 1 & 1) << bit;
        }
        return number;
    }

    int ruler(int i) {
        if (i < 1) {
            return -2;
        }
        int bit = 0;
        while ((i >> bit & 1) == 0) {
            bit++;
        }
        return bit;
    }

    int makes(int slot, int what) {
        Told list = in(slot);
        if (list == null || what < 0 || what > 2) {
            return -2;
        }
        List<Integer> steps = new ArrayList<>();
        if (what == 0) {
            for (int i = 1; i < 1 << list.n(); i++) {
                steps.add(ruler(i));
            }
            steps.add(list.n() - 1);
        } else if (what == 1) {
            for (int i = 0; i < 2 * list.n(); i++) {
                steps.add(i % list.n());
            }
        } else {
            steps.addAll(list.steps());
            steps.addAll(list.steps());
        }
        if (steps.size() > 256) {
            return -2;
        }
        becomes(slot, list.with(list.start(), steps));
        return steps.size();
    }

    private int taken;

    int finds(int slot, int law, int tries) {
        Told list = in(slot);
        if (list == null || law < 0 || law > 3 || tries < 1 || tries > 50000) {
            return -2;
        }
        if (!list.scope().contains(list.start())) {
            return NONE;
        }
        taken = 0;
        Set<Integer> there = new HashSet<>(Set.of(list.start()));
        List<Integer> steps = new ArrayList<>();
        Told found;
        try {
            found = goesOn(list, law, tries, list.scope(), there, steps, list.start());
        } catch (TooLong tooLong) {
            return -3;
        }
        if (found == null) {
            return NONE;
        }
        becomes(slot, found);
        return found.steps().size();
    }

    private Told goesOn(Told list, int law, int tries, Set<Integer> scope, Set<Integer> there,
            List<Integer> steps, int word) {
        if (there.size() == scope.size()) {
            return closes(list, law, steps, word);
        }
        for (int bit = 0; bit < list.n(); bit++) {
            int next = word ^ 1 << bit;
            if (!scope.contains(next) || there.contains(next)) {
                continue;
            }
            steps.add(bit);
            if (law != 2 || monotone(list.with(list.start(), steps))) {
                taken++;
                if (taken > tries) {
                    throw new TooLong();
                }
                there.add(next);
                Told found = goesOn(list, law, tries, scope, there, steps, next);
                if (found != null) {
                    return found;
                }
                there.remove(next);
            }
            steps.remove(steps.size() - 1);
        }
        return null;
    }

    private static Told closes(Told list, int law, List<Integer> steps, int word) {
        if (law == 0 || law == 2) {
            return list.with(list.start(), steps);
        }
        for (int bit = 0; bit < list.n(); bit++) {
            if ((word ^ 1 << bit) == list.start() && list.scope().size() > 1) {
                List<Integer> round = new ArrayList<>(steps);
                round.add(bit);
                Told found = list.with(list.start(), round);
                return law == 1 || opposite(found) ? found : null;
            }
        }
        return null;
    }

    private static Told extended(Told list, long cuts) {
        int m = list.steps().size();
        List<List<Integer>> parts = new ArrayList<>();
        List<Integer> part = new ArrayList<>();
        for (int at = 0; at < m; at++) {
            part.add(at);
            if (at == m - 1 || at < 64 && (cuts >>> at & 1) == 1) {
                parts.add(part);
                part = new ArrayList<>();
            }
        }
        List<Integer> steps = new ArrayList<>();
        for (int i = 0; i < parts.size(); i++) {
            int first = parts.get(i).get(0);
            int last = parts.get(i).get(parts.get(i).size() - 1);
            List<Integer> on = list.steps().subList(first, last);
            List<Integer> back = new ArrayList<>(on);
            Collections.reverse(back);
            steps.addAll(on);
            steps.add(i % 2 == 0 ? list.n() : list.n() + 1);
            steps.addAll(back);
            steps.add(i % 2 == 0 ? list.n() + 1 : list.n());
            steps.addAll(on);
            if (i < parts.size() - 1) {
                steps.add(list.steps().get(last));
            }
        }
        steps.add(list.n());
        List<Integer> all = new ArrayList<>(list.steps().subList(0, m - 1));
        Collections.reverse(all);
        steps.addAll(all);
        steps.add(list.n() + 1);
        return new Told(list.n() + 2, 0, list.n() + 2, list.start(), List.copyOf(steps));
    }

    private static boolean cuttable(Told list, long cuts) {
        for (int at = 0; at < 64; at++) {
            if ((cuts >>> at & 1) == 1 && at > list.steps().size() - 2) {
                return false;
            }
        }
        return Long.bitCount(cuts) % 2 == 0;
    }

    private static boolean whole(Told list) {
        return list.loop() && full(list) && list.a() == 0 && list.b() == list.n();
    }

    int extend(int slot, long cuts) {
        Told list = in(slot);
        if (list == null || !cuttable(list, cuts)) {
            return -2;
        }
        if (list.n() > 6) {
            return -5;
        }
        if (!whole(list)) {
            return -6;
        }
        becomes(slot, extended(list, cuts));
        return list.n() + 2;
    }

    int open(int slot) {
        Told list = in(slot);
        if (list == null) {
            return -2;
        }
        int bits = 0;
        int last = list.words().get(list.steps().size());
        for (int bit = 0; bit < list.n(); bit++) {
            int word = last ^ 1 << bit;
            if (list.scope().contains(word) && !list.shown().contains(word)) {
                bits |= 1 << bit;
            }
        }
        return bits;
    }

    int way(int slot, int word, int other) {
        Told list = in(slot);
        if (!hasWord(list, word) || !hasWord(list, other)) {
            return -2;
        }
        Set<Integer> free = list.scope();
        free.removeAll(list.shown());
        free.add(word);
        free.add(other);
        Set<Integer> reached = new HashSet<>(Set.of(word));
        for (int steps = 0; steps <= 256; steps++) {
            if (reached.contains(other)) {
                return steps;
            }
            Set<Integer> more = new HashSet<>(reached);
            for (int from : reached) {
                for (int bit = 0; bit < list.n(); bit++) {
                    if (free.contains(from ^ 1 << bit)) {
                        more.add(from ^ 1 << bit);
                    }
                }
            }
            reached = more;
        }
        return NONE;
    }

    private final Map<Told, long[]> evenestKnown = new LinkedHashMap<>();

    long evenest(int slot, int what) {
        Told list = in(slot);
        if (list == null || !flag(what)) {
            return -2;
        }
        if (list.steps().size() > 16) {
            return -5;
        }
        if (!whole(list)) {
            return -6;
        }
        return evenestKnown.computeIfAbsent(list, NaiveLists::seeks)[what];
    }

    private static long[] seeks(Told list) {
        long[] best = null;
        for (long cuts = 0; cuts < 1L << list.steps().size() - 1; cuts++) {
            if (cuttable(list, cuts)) {
                int uneven = unevenOf(extended(list, cuts));
                if (best == null || uneven < best[0]) {
                    best = new long[] {uneven, cuts};
                }
            }
        }
        return best;
    }

    private static int roll(int word, int d, int n) {
        int rolled = 0;
        for (int b = 0; b < n; b++) {
            rolled |= (word >> b & 1) << (b + d) % n;
        }
        return rolled;
    }

    int tracks(int slot, int p, int r, int tries) {
        Told list = in(slot);
        if (list == null || list.n() < 2 || p < 1 || tries < 1 || tries > 50000 || r < 1
            || r >= list.n()
            || !java.math.BigInteger.valueOf(r).gcd(java.math.BigInteger.valueOf(list.n()))
                .equals(java.math.BigInteger.ONE)) {
            return -2;
        }
        if ((long) list.n() * p > 256) {
            return -5;
        }
        taken = 0;
        List<Integer> words = new ArrayList<>(List.of(list.start()));
        List<Integer> steps = new ArrayList<>();
        try {
            if (!fresh(list.start(), List.of(), list.n())
                || !tracked(list, p, r, tries, words, steps)) {
                return NONE;
            }
        } catch (TooLong tooLong) {
            return -3;
        }
        List<Integer> all = new ArrayList<>();
        for (int k = 0; k < list.n(); k++) {
            for (int bit : steps) {
                all.add((bit + k * r) % list.n());
            }
        }
        becomes(slot, list.with(list.start(), all));
        return all.size();
    }

    private static boolean fresh(int word, List<Integer> words, int n) {
        for (int d = 0; d < n; d++) {
            int rolled = roll(word, d, n);
            if (words.contains(rolled) || d > 0 && rolled == word) {
                return false;
            }
        }
        return true;
    }

    private boolean tracked(Told list, int p, int r, int tries, List<Integer> words,
            List<Integer> steps) {
        if (steps.size() == p) {
            return true;
        }
        for (int bit = 0; bit < list.n(); bit++) {
            int next = words.get(words.size() - 1) ^ 1 << bit;
            boolean good = steps.size() == p - 1 ? next == roll(list.start(), r, list.n())
                : fresh(next, words, list.n());
            if (good) {
                taken++;
                if (taken > tries) {
                    throw new TooLong();
                }
                steps.add(bit);
                words.add(next);
                if (tracked(list, p, r, tries, words, steps)) {
                    return true;
                }
                steps.remove(steps.size() - 1);
                words.remove(words.size() - 1);
            }
        }
        return false;
    }

    int product(int slot, int other, int to) {
        Told one = in(slot);
        Told two = in(other);
        if (one == null || two == null || to < 0 || to > 2) {
            return -2;
        }
        List<Integer> back = new ArrayList<>(one.steps());
        Collections.reverse(back);
        List<Integer> steps = new ArrayList<>(one.steps());
        boolean on = false;
        for (int bit : two.steps()) {
            steps.add(bit + one.n());
            steps.addAll(on ? one.steps() : back);
            on = !on;
        }
        int n = one.n() + two.n();
        if (n > 8 || steps.size() > 256) {
            return -5;
        }
        becomes(to, new Told(n, 0, n, one.start() + (two.start() << one.n()), List.copyOf(steps)));
        return steps.size();
    }

    private static Told ofWords(Told list, List<Integer> words) {
        List<Integer> steps = new ArrayList<>();
        for (int i = 0; i + 1 < words.size(); i++) {
            int unlike = words.get(i) ^ words.get(i + 1);
            if (Integer.bitCount(unlike) != 1) {
                return null;
            }
            steps.add(Integer.numberOfTrailingZeros(unlike));
        }
        return list.with(words.get(0), steps);
    }

    private static Told twisted(Told list, int i, int j) {
        List<Integer> words = list.words();
        Collections.reverse(words.subList(i + 1, j + 1));
        return ofWords(list, words);
    }

    int twists(int slot, int i, int j) {
        Told list = in(slot);
        if (list == null || i < 0 || i >= j || j >= list.steps().size()) {
            return -2;
        }
        Told twisted = twisted(list, i, j);
        if (twisted == null) {
            return -6;
        }
        becomes(slot, twisted);
        return twisted.steps().size();
    }

    int twistable(int slot) {
        Told list = in(slot);
        if (list == null) {
            return -2;
        }
        int found = 0;
        List<Integer> words = list.words();
        for (int i = 0; i < list.steps().size(); i++) {
            for (int j = i + 2; j < list.steps().size(); j++) {
                int unlike = words.get(i) ^ words.get(j);
                if (Integer.bitCount(unlike) == 1 && twisted(list, i, j) != null) {
                    found++;
                }
            }
        }
        return found;
    }

    int detour(int slot, int i, int bit) {
        Told list = in(slot);
        if (!hasBit(list, bit) || i < 0 || i >= list.steps().size()) {
            return -2;
        }
        List<Integer> steps = new ArrayList<>(list.steps());
        steps.add(i + 1, bit);
        steps.add(i, bit);
        if (steps.size() > 256) {
            return -5;
        }
        becomes(slot, list.with(list.start(), steps));
        return steps.size();
    }

    private static Told renamed(Told list, int[] names) {
        List<Integer> words = new ArrayList<>();
        for (int word : list.words()) {
            int renamed = 0;
            for (int bit = 0; bit < list.n(); bit++) {
                renamed |= (word >> bit & 1) << names[bit];
            }
            words.add(renamed);
        }
        return ofWords(list, words);
    }

    int mirror(int slot) {
        Told list = in(slot);
        if (list == null) {
            return -2;
        }
        int[] names = new int[8];
        for (int bit = 0; bit < list.n(); bit++) {
            names[bit] = list.n() - 1 - bit;
        }
        becomes(slot, renamed(list, names));
        return slots[slot].start();
    }

    int starts(int slot, int word) {
        Told list = in(slot);
        if (!hasWord(list, word)) {
            return -2;
        }
        becomes(slot, list.with(word, list.steps()));
        return list.start();
    }

    int swaps(int slot, int a, int b) {
        Told list = in(slot);
        if (!hasBit(list, a) || !hasBit(list, b)) {
            return -2;
        }
        int[] names = {0, 1, 2, 3, 4, 5, 6, 7};
        names[a] = b;
        names[b] = a;
        Told swapped = renamed(list, names);
        int others = 0;
        for (int i = 0; i < list.steps().size(); i++) {
            others += list.steps().get(i).equals(swapped.steps().get(i)) ? 0 : 1;
        }
        becomes(slot, swapped);
        return others;
    }

    int reverse(int slot) {
        Told list = in(slot);
        if (list == null) {
            return -2;
        }
        List<Integer> words = list.words();
        Collections.reverse(words);
        becomes(slot, ofWords(list, words));
        return words.get(0);
    }

    int rolls(int slot, int at) {
        Told list = in(slot);
        if (list == null || at < 0 || at > list.steps().size() - 1) {
            return -2;
        }
        if (!list.loop()) {
            return -6;
        }
        List<Integer> words = new ArrayList<>(list.shown());
        Collections.rotate(words, -at);
        words.add(words.get(0));
        becomes(slot, ofWords(list, words));
        return words.get(0);
    }

    int adds(int slot, int bit) {
        Told list = in(slot);
        if (!hasBit(list, bit)) {
            return -2;
        }
        if (list.steps().size() == 256) {
            return -5;
        }
        List<Integer> steps = new ArrayList<>(list.steps());
        steps.add(bit);
        becomes(slot, list.with(list.start(), steps));
        return slots[slot].words().get(steps.size());
    }

    int cuts(int slot, int n) {
        Told list = in(slot);
        if (list == null || n < 1 || n > list.steps().size()) {
            return -2;
        }
        becomes(slot, list.with(list.start(),
            list.steps().subList(0, list.steps().size() - n)));
        return slots[slot].steps().size();
    }

    private static List<Integer> named(List<Integer> steps) {
        Map<Integer, Integer> names = new HashMap<>();
        List<Integer> named = new ArrayList<>();
        for (int bit : steps) {
            names.putIfAbsent(bit, names.size());
            named.add(names.get(bit));
        }
        return named;
    }

    int alike(int slot, int other) {
        Told one = in(slot);
        Told two = in(other);
        if (one == null || two == null) {
            return -2;
        }
        if (one.loop() != two.loop()) {
            return 0;
        }
        List<Integer> due = named(one.steps());
        List<Integer> steps = new ArrayList<>(two.steps());
        if (!one.loop()) {
            return due.equals(named(steps)) ? 1 : 0;
        }
        for (int way = 0; way < 2; way++) {
            for (int i = 0; i < steps.size(); i++) {
                if (due.equals(named(steps))) {
                    return 1;
                }
                Collections.rotate(steps, 1);
            }
            Collections.reverse(steps);
        }
        return 0;
    }

    int drops(int slot) {
        if (slot < 0 || slot > 2) {
            return -2;
        }
        int had = slots[slot] == null ? 0 : 1;
        becomes(slot, null);
        return had;
    }

    int undo() {
        if (before.isEmpty()) {
            return NONE;
        }
        slots = before.removeLast();
        return before.size();
    }

    int tell(int slot, int what) {
        Told list = in(slot);
        if (list == null || !flag(what)) {
            return -2;
        }
        StringBuilder text = new StringBuilder();
        if (what == 0) {
            text.append("bits " + list.n() + " levels " + list.a() + " to " + list.b()
                + " start " + list.start() + ":");
            list.steps().forEach(text::append);
            text.append(";");
        } else {
            for (int word : list.shown()) {
                String signs = Integer.toBinaryString(word | 1 << list.n()).substring(1);
                text.append(signs).append("\n");
            }
        }
        out = text.toString();
        return out.length();
    }

    int octet(int i) {
        return i < 0 || i >= out.length() ? NONE : out.charAt(i);
    }

    @Override
    public String toString() {
        return Arrays.toString(slots);
    }
}
