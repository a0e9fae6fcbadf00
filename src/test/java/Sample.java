import java.util.ArrayList;
import java.util.HashSet;
import java.util.List;
import java.util.Set;

/** A list as a test knows it without the class: words, shown places and tracks from its steps. */
final class Sample {
    private static final List<Sample> SOME = makeSome();

    final int n;
    final int a;
    final int b;
    final int start;
    final String steps;
    final int size;
    final int[] words;
    final boolean loop;
    /** How many places are shown. */
    final int shown;

    Sample(int n, int a, int b, int start, String steps) {
        this.n = n;
        this.a = a;
        this.b = b;
        this.start = start;
        this.steps = steps;
        size = steps.length();
        words = new int[size + 1];
        words[0] = start;
        for (int i = 0; i < size; i++) {
            words[i + 1] = words[i] ^ 1 << bit(i);
        }
        loop = size > 0 && words[size] == start;
        shown = loop ? size : size + 1;
    }

    /** Lists of every width, loops and others, of all levels and of some, clean or not. */
    static List<Sample> some() {
        return SOME;
    }

    private static List<Sample> makeSome() {
        List<Sample> made = new ArrayList<>();
        for (String steps : new String[] {"", "0", "00", "000", "0101", "010", "0011", "0110"}) {
            int n = steps.contains("1") ? 2 : 1;
            made.add(new Sample(n, 0, n, 0, steps));
            made.add(new Sample(n, 0, n, (1 << n) - 1, steps));
            made.add(new Sample(n + 2, 1, 2, 5, steps));
        }
        for (String steps : new String[] {"01020102", "012012", "0102010", "10221200",
            "012012012012", "102102", "0120", "01201", "0110202112"}) {
            made.add(new Sample(3, 0, 3, 0, steps));
            made.add(new Sample(3, 1, 2, 1, steps));
            made.add(new Sample(5, 0, 4, 19, steps));
        }
        made.add(new Sample(4, 0, 4, 9, "0123012301230123"));
        made.add(new Sample(4, 0, 4, 0, "0102010301020103"));
        made.add(new Sample(4, 0, 4, 6, "01230123"));
        made.add(new Sample(8, 0, 8, 200, "0123456701234567"));
        made.add(new Sample(8, 3, 5, 15, "7654321076543210"));
        for (int n = 1; n <= 8; n++) {
            for (int seed = 1; seed <= 4; seed++) {
                made.add(walk(n, seed, false));
                made.add(walk(n, seed, true));
            }
        }
        return made;
    }

    /** Steps that seem to be taken at random, and, if it is to come round, those that go back. */
    private static Sample walk(int n, int seed, boolean round) {
        int state = n * 1009 + seed * 7919;
        StringBuilder steps = new StringBuilder();
        int unlike = 0;
        for (int i = 0; i < 5 + seed * 9; i++) {
            state = state * 1103515245 + 12345;
            int bit = (state >>> 16) % n;
            steps.append(bit);
            unlike ^= 1 << bit;
        }
        for (int bit = n - 1; round && bit >= 0; bit--) {
            if ((unlike >> bit & 1) == 1) {
                steps.append(bit);
            }
        }
        int low = seed % 2 == 0 ? 0 : n / 2;
        int high = seed % 3 == 0 ? n : (n + 1) / 2;
        return new Sample(n, low, high, (state >>> 8) % (1 << n), steps.toString());
    }

    String text() {
        return "bits " + n + " levels " + a + " to " + b + " start " + start + ":" + steps + ";";
    }

    /** As Edges.list tells what a slot has. */
    String list() {
        return n + " " + a + " " + b + " " + start + ":" + steps;
    }

    int bit(int i) {
        return steps.charAt(i) - '0';
    }

    int last() {
        return words[size];
    }

    int bitAt(int place, int bit) {
        return words[place] >> bit & 1;
    }

    int turns(int bit) {
        int found = 0;
        for (int i = 0; i < size; i++) {
            found += bit(i) == bit ? 1 : 0;
        }
        return found;
    }

    /** Counted one by one, so that nothing is taken from the class. */
    static int level(int word) {
        int ones = 0;
        for (int left = word; left > 0; left /= 2) {
            ones += left % 2;
        }
        return ones;
    }

    static int unlike(int one, int two) {
        return level(one ^ two);
    }

    boolean inScope(int word) {
        return level(word) >= a && level(word) <= b;
    }

    int scopeSize() {
        int found = 0;
        for (int word = 0; word < 1 << n; word++) {
            found += inScope(word) ? 1 : 0;
        }
        return found;
    }

    Set<Integer> shownWords() {
        Set<Integer> found = new HashSet<>();
        for (int place = 0; place < shown; place++) {
            found.add(words[place]);
        }
        return found;
    }

    boolean clean() {
        return shownWords().size() == shown;
    }

    boolean full() {
        boolean full = clean() && shown == scopeSize();
        for (int word : shownWords()) {
            full = full && inScope(word);
        }
        return full;
    }

    /** Two shown places, in a loop the nearer way. */
    int far(int one, int two) {
        int far = Math.abs(one - two);
        return loop ? Math.min(far, size - far) : far;
    }

    boolean monotone() {
        for (int late = 0; late < size; late++) {
            int k = Math.min(level(words[late]), level(words[late + 1]));
            for (int early = 0; early < late; early++) {
                if (Math.min(level(words[early]), level(words[early + 1])) >= k + 2) {
                    return false;
                }
            }
        }
        return true;
    }

    boolean snake() {
        boolean snake = clean();
        for (int one = 0; one < shown; one++) {
            for (int two = 0; two < shown; two++) {
                snake = snake && (far(one, two) <= 1 || unlike(words[one], words[two]) >= 2);
            }
        }
        return snake;
    }

    boolean opposite() {
        boolean opposite = loop && size % 2 == 0;
        for (int place = 0; opposite && place < size; place++) {
            opposite = unlike(words[place], words[(place + size / 2) % size]) == n;
        }
        return opposite;
    }

    /** Whether at each place i a bit is what bit 0 is at i and d, going round. */
    boolean isRolled(int bit, int d) {
        for (int i = 0; i < size; i++) {
            if (bitAt(i, bit) != bitAt((i + d) % size, 0)) {
                return false;
            }
        }
        return true;
    }

    int rolledBy(int bit) {
        for (int d = 0; loop && d < size; d++) {
            if (isRolled(bit, d)) {
                return d;
            }
        }
        return -1;
    }

    boolean oneTrack() {
        boolean one = loop;
        for (int bit = 0; one && bit < n; bit++) {
            one = rolledBy(bit) >= 0;
        }
        return one;
    }
}
