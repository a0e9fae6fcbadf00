import java.util.Arrays;

/**
 * Lists of words that change one bit at a time, held in three slots; the document's numbered
 * promises say what each public method answers.
 *
 * Every row that a call needs is made here once, because all calls of a run share one room.
 */
public final class OneAtATime {
    public static final int NONE = -1;

    private static final int REFUSED = -2;
    private static final int TOO_LONG = -3;
    private static final int FAULTY = -4;
    private static final int TOO_MUCH = -5;
    private static final int UNFIT = -6;

    private static final int SLOTS = 3;
    private static final int MOST_BITS = 8;
    private static final int MOST_WORDS = 256;
    private static final int MOST_STEPS = 256;
    private static final int MOST_TRIES = 50000;
    private static final int MOST_ACTS = 10;
    private static final int MOST_TAPE = 400;
    /** 257 shown words of eight signs and a line feed are the longest that can be told. */
    private static final int MOST_OUT = 2400;
    private static final int MOST_EVENEST_STEPS = 16;

    private final BitList[] slots;
    private final BitList draft;
    private final History history;
    private final Reader reader;
    private final Bytes out;
    private final Survey survey;
    private final Search search;
    private final Likeness likeness;
    private final Evenness evenness;

    public OneAtATime() {
        slots = new BitList[SLOTS];
        for (int i = 0; i < SLOTS; i++) {
            slots[i] = new BitList();
        }
        draft = new BitList();
        history = new History();
        reader = new Reader();
        out = new Bytes(MOST_OUT);
        survey = new Survey();
        search = new Search();
        likeness = new Likeness();
        evenness = new Evenness();
    }

    public int feed(int a, int b, int c, int d, int e) {
        Bytes tape = reader.tape;
        if (!tape.hasRoom(20)) {
            return NONE;
        }
        tape.putFour(a);
        tape.putFour(b);
        tape.putFour(c);
        tape.putFour(d);
        tape.putFour(e);
        return tape.length;
    }

    public int end(int n) {
        if (n < 0 || n > reader.tape.length) {
            return NONE;
        }
        reader.tape.length = n;
        return n;
    }

    public int told(int slot) {
        if (!isSlot(slot)) {
            return REFUSED;
        }
        boolean good = reader.reads(draft);
        reader.tape.length = 0;
        if (!good) {
            return FAULTY;
        }
        return settle(slot);
    }

    public int fault(int what) {
        switch (what) {
            case 0: return reader.fault;
            case 1: return reader.place;
            default: return NONE;
        }
    }

    public int count(int what) {
        switch (what) {
            case 0: return slotsAsBits();
            case 1: return history.depth;
            case 2: return reader.tape.length;
            case 3: return out.length;
            default: return NONE;
        }
    }

    public int look(int slot, int what) {
        BitList list = listIn(slot);
        if (list == null) {
            return REFUSED;
        }
        switch (what) {
            case 0: return list.width;
            case 1: return list.low;
            case 2: return list.high;
            case 3: return list.words[0];
            case 4: return list.size;
            case 5: return list.shown();
            case 6: return survey.unlikeWords(list);
            case 7: return list.scopeSize();
            default: return REFUSED;
        }
    }

    public int is(int slot, int what) {
        BitList list = listIn(slot);
        if (list == null) {
            return REFUSED;
        }
        switch (what) {
            case 0: return asNumber(list.comesRound());
            case 1: return asNumber(survey.isClean(list));
            case 2: return asNumber(survey.isFull(list));
            case 3: return asNumber(Survey.isMonotone(list));
            case 4: return asNumber(survey.isSnake(list));
            case 5: return asNumber(Survey.isOpposite(list));
            case 6: return asNumber(Survey.isOneTrack(list));
            default: return REFUSED;
        }
    }

    public int word(int slot, int place) {
        BitList list = listIn(slot);
        if (list == null || place < 0) {
            return REFUSED;
        }
        return place > list.size ? NONE : list.words[place];
    }

    public int step(int slot, int i) {
        BitList list = listIn(slot);
        if (list == null || i < 0) {
            return REFUSED;
        }
        return i >= list.size ? NONE : list.steps[i];
    }

    public int where(int slot, int word, int k) {
        BitList list = listIn(slot);
        if (list == null || !list.hasWord(word) || k < 0) {
            return REFUSED;
        }
        int shown = list.shown();
        int left = k;
        for (int place = 0; place < shown; place++) {
            if (list.words[place] == word) {
                if (left == 0) {
                    return place;
                }
                left--;
            }
        }
        return NONE;
    }

    public int lacks(int slot, int k) {
        BitList list = listIn(slot);
        if (list == null || k < 0) {
            return REFUSED;
        }
        return survey.lackedWord(list, k);
    }

    public int turned(int slot, int bit) {
        BitList list = listIn(slot);
        if (list == null || !list.hasBit(bit)) {
            return REFUSED;
        }
        return list.turnsOf(bit);
    }

    public int order(int slot, int k) {
        BitList list = listIn(slot);
        if (list == null || !list.hasBit(k)) {
            return REFUSED;
        }
        return Survey.bitByTurns(list, k);
    }

    public int uneven(int slot) {
        BitList list = listIn(slot);
        return list == null ? REFUSED : Survey.unevenness(list);
    }

    public int gap(int slot, int bit) {
        BitList list = listIn(slot);
        if (list == null || bit != NONE && !list.hasBit(bit)) {
            return REFUSED;
        }
        return bit == NONE ? Survey.leastGap(list) : Survey.gapOf(list, bit);
    }

    public int run(int slot, int bit, int v) {
        BitList list = listIn(slot);
        if (list == null || !list.hasBit(bit) || !isFlag(v)) {
            return REFUSED;
        }
        return Survey.longestRow(list, bit, v);
    }

    public int parts(int slot, int bit, int v) {
        BitList list = listIn(slot);
        if (list == null || !list.hasBit(bit) || !isFlag(v)) {
            return REFUSED;
        }
        return Survey.rowsOf(list, bit, v);
    }

    public int level(int slot, int l, int last) {
        BitList list = listIn(slot);
        if (list == null || l < 0 || l > list.width || !isFlag(last)) {
            return REFUSED;
        }
        return Survey.placeOfLevel(list, l, last == 1);
    }

    public int same(int slot, int other) {
        BitList one = listIn(slot);
        BitList two = listIn(other);
        if (one == null || two == null) {
            return REFUSED;
        }
        int last = Math.min(one.size, two.size);
        int found = 0;
        for (int place = 0; place <= last; place++) {
            if (one.words[place] == two.words[place]) {
                found++;
            }
        }
        return found;
    }

    public int shift(int slot, int bit) {
        BitList list = listIn(slot);
        if (list == null || !list.hasBit(bit)) {
            return REFUSED;
        }
        return Survey.trackShift(list, bit);
    }

    public int apart(int slot, int place, int other) {
        BitList list = listIn(slot);
        if (list == null || !list.hasPlace(place) || !list.hasPlace(other)) {
            return REFUSED;
        }
        return Integer.bitCount(list.words[place] ^ list.words[other]);
    }

    public int spread(int slot) {
        BitList list = listIn(slot);
        return list == null ? REFUSED : survey.widestSpread(list);
    }

    public int climbs(int slot, int l, int up) {
        BitList list = listIn(slot);
        if (list == null || l < 0 || l >= list.width || !isFlag(up)) {
            return REFUSED;
        }
        return Survey.stepsBetween(list, up == 1 ? l : l + 1, up == 1 ? l + 1 : l);
    }

    public int code(int number) {
        return number < 0 ? REFUSED : number ^ (number >> 1);
    }

    public int rank(int word) {
        if (word < 0) {
            return REFUSED;
        }
        int number = word;
        for (int by = 1; by < 32; by = by * 2) {
            number = number ^ (number >> by);
        }
        return number;
    }

    public int ruler(int i) {
        return i < 1 ? REFUSED : Integer.numberOfTrailingZeros(i);
    }

    public int makes(int slot, int what) {
        BitList list = listIn(slot);
        if (list == null) {
            return REFUSED;
        }
        switch (what) {
            case 0:
                Maker.reflected(list, draft);
                return settle(slot);
            case 1:
                Maker.ladder(list, draft);
                return settle(slot);
            case 2:
                if (list.size * 2 > MOST_STEPS) {
                    return REFUSED;
                }
                Maker.twice(list, draft);
                return settle(slot);
            default:
                return REFUSED;
        }
    }

    public int finds(int slot, int law, int tries) {
        BitList list = listIn(slot);
        if (list == null || law < 0 || law > 3 || tries < 1 || tries > MOST_TRIES) {
            return REFUSED;
        }
        int answer = search.byLaw(list, law, tries, draft);
        return answer < 0 ? answer : settle(slot);
    }

    public int extend(int slot, long cuts) {
        BitList list = listIn(slot);
        if (list == null || !Maker.canBeCut(list, cuts)) {
            return REFUSED;
        }
        if (list.width > MOST_BITS - 2) {
            return TOO_MUCH;
        }
        if (!isWholeLoop(list)) {
            return UNFIT;
        }
        Maker.extended(list, cuts, draft);
        settle(slot);
        return draft.width;
    }

    public int open(int slot) {
        BitList list = listIn(slot);
        return list == null ? REFUSED : survey.openBits(list);
    }

    public int way(int slot, int word, int other) {
        BitList list = listIn(slot);
        if (list == null || !list.hasWord(word) || !list.hasWord(other)) {
            return REFUSED;
        }
        return survey.shortestWay(list, word, other);
    }

    public long evenest(int slot, int what) {
        BitList list = listIn(slot);
        if (list == null || !isFlag(what)) {
            return REFUSED;
        }
        if (list.size > MOST_EVENEST_STEPS) {
            return TOO_MUCH;
        }
        if (!isWholeLoop(list)) {
            return UNFIT;
        }
        evenness.seek(list);
        return what == 0 ? evenness.least : evenness.leastCuts;
    }

    public int tracks(int slot, int p, int r, int tries) {
        BitList list = listIn(slot);
        if (list == null || list.width < 2 || p < 1 || tries < 1 || tries > MOST_TRIES) {
            return REFUSED;
        }
        if (r < 1 || r >= list.width || haveCommonDivisor(r, list.width)) {
            return REFUSED;
        }
        if (p > MOST_STEPS || list.width * p > MOST_STEPS) {
            return TOO_MUCH;
        }
        int answer = search.forTracks(list, p, r, tries, draft);
        if (answer < 0) {
            return answer;
        }
        Maker.toldRolled(draft, p, r);
        return settle(slot);
    }

    public int product(int slot, int other, int to) {
        BitList one = listIn(slot);
        BitList two = listIn(other);
        if (one == null || two == null || !isSlot(to)) {
            return REFUSED;
        }
        int size = one.size * (two.size + 1) + two.size;
        if (one.width + two.width > MOST_BITS || size > MOST_STEPS) {
            return TOO_MUCH;
        }
        Maker.multiplied(one, two, draft);
        return settle(to);
    }

    public int twists(int slot, int i, int j) {
        BitList list = listIn(slot);
        if (list == null || i < 0 || i >= j || j >= list.size) {
            return REFUSED;
        }
        if (!list.canTwist(i, j)) {
            return UNFIT;
        }
        Maker.twisted(list, i, j, draft);
        return settle(slot);
    }

    public int twistable(int slot) {
        BitList list = listIn(slot);
        return list == null ? REFUSED : Survey.twistablePairs(list);
    }

    public int detour(int slot, int i, int bit) {
        BitList list = listIn(slot);
        if (list == null || i < 0 || i >= list.size || !list.hasBit(bit)) {
            return REFUSED;
        }
        if (list.size + 2 > MOST_STEPS) {
            return TOO_MUCH;
        }
        Maker.detoured(list, i, bit, draft);
        return settle(slot);
    }

    public int mirror(int slot) {
        BitList list = listIn(slot);
        if (list == null) {
            return REFUSED;
        }
        Maker.mirrored(list, draft);
        settle(slot);
        return list.words[0];
    }

    public int starts(int slot, int word) {
        BitList list = listIn(slot);
        if (list == null || !list.hasWord(word)) {
            return REFUSED;
        }
        int before = list.words[0];
        draft.beginLike(list, word);
        draft.pushOn(list, 0, list.size, 0);
        settle(slot);
        return before;
    }

    public int swaps(int slot, int a, int b) {
        BitList list = listIn(slot);
        if (list == null || !list.hasBit(a) || !list.hasBit(b)) {
            return REFUSED;
        }
        int others = a == b ? 0 : list.turnsOf(a) + list.turnsOf(b);
        Maker.swapped(list, a, b, draft);
        settle(slot);
        return others;
    }

    public int reverse(int slot) {
        BitList list = listIn(slot);
        if (list == null) {
            return REFUSED;
        }
        draft.beginLike(list, list.lastWord());
        draft.pushBack(list, 0, list.size);
        settle(slot);
        return list.words[0];
    }

    public int rolls(int slot, int place) {
        BitList list = listIn(slot);
        if (list == null || place < 0 || place >= list.size) {
            return REFUSED;
        }
        if (!list.comesRound()) {
            return UNFIT;
        }
        draft.beginLike(list, list.words[place]);
        draft.pushOn(list, place, list.size, 0);
        draft.pushOn(list, 0, place, 0);
        settle(slot);
        return list.words[0];
    }

    public int adds(int slot, int bit) {
        BitList list = listIn(slot);
        if (list == null || !list.hasBit(bit)) {
            return REFUSED;
        }
        if (list.size >= MOST_STEPS) {
            return TOO_MUCH;
        }
        draft.copyFrom(list);
        draft.push(bit);
        settle(slot);
        return list.lastWord();
    }

    public int cuts(int slot, int n) {
        BitList list = listIn(slot);
        if (list == null || n < 1 || n > list.size) {
            return REFUSED;
        }
        draft.copyFrom(list);
        draft.size = list.size - n;
        return settle(slot);
    }

    public int alike(int slot, int other) {
        BitList one = listIn(slot);
        BitList two = listIn(other);
        if (one == null || two == null) {
            return REFUSED;
        }
        return asNumber(likeness.holds(one, two));
    }

    public int drops(int slot) {
        if (!isSlot(slot)) {
            return REFUSED;
        }
        BitList list = slots[slot];
        if (!list.exists) {
            return 0;
        }
        history.keep(slot, list);
        list.exists = false;
        return 1;
    }

    public int undo() {
        if (history.depth == 0) {
            return NONE;
        }
        int slot = history.latestSlot();
        if (isSlot(slot)) {
            history.takeBack(slots[slot]);
        }
        return history.depth;
    }

    public int tell(int slot, int what) {
        BitList list = listIn(slot);
        if (list == null || !isFlag(what)) {
            return REFUSED;
        }
        out.length = 0;
        if (what == 0) {
            out.putText(list);
        } else {
            out.putWords(list);
        }
        return out.length;
    }

    public int octet(int i) {
        return i < 0 || i >= out.length ? NONE : out.at(i);
    }

    private static boolean isSlot(int slot) {
        return slot >= 0 && slot < SLOTS;
    }

    private static boolean isFlag(int value) {
        return value == 0 || value == 1;
    }

    private static int asNumber(boolean holds) {
        return holds ? 1 : 0;
    }

    private static boolean haveCommonDivisor(int a, int b) {
        for (int divisor = 2; divisor <= MOST_BITS; divisor++) {
            if (a % divisor == 0 && b % divisor == 0) {
                return true;
            }
        }
        return false;
    }

    private BitList listIn(int slot) {
        if (!isSlot(slot) || !slots[slot].exists) {
            return null;
        }
        return slots[slot];
    }

    private int slotsAsBits() {
        int bits = 0;
        for (int i = 0; i < SLOTS; i++) {
            if (slots[i].exists) {
                bits = bits | (1 << i);
            }
        }
        return bits;
    }

    private boolean isWholeLoop(BitList list) {
        return list.low == 0 && list.high == list.width
            && list.comesRound() && survey.isFull(list);
    }

    /** The draft comes into a slot; only what makes the slot otherwise is an act. */
    private int settle(int slot) {
        BitList now = slots[slot];
        if (!now.matches(draft)) {
            history.keep(slot, now);
            now.copyFrom(draft);
        }
        return now.size;
    }

    /** One list: its words are kept beside its steps, since nearly every question is about words. */
    private static final class BitList {
        final int[] steps;
        final int[] words;
        boolean exists;
        int width;
        int low;
        int high;
        int size;

        BitList() {
            steps = new int[MOST_STEPS];
            words = new int[MOST_STEPS + 1];
            exists = false;
        }

        void begin(int newWidth, int newLow, int newHigh, int start) {
            exists = true;
            width = newWidth;
            low = newLow;
            high = newHigh;
            size = 0;
            words[0] = start;
        }

        void beginLike(BitList other, int start) {
            begin(other.width, other.low, other.high, start);
        }

        void push(int bit) {
            if (size < MOST_STEPS && hasBit(bit)) {
                steps[size] = bit;
                words[size + 1] = words[size] ^ (1 << bit);
                size++;
            }
        }

        void pop() {
            if (size > 0) {
                size--;
            }
        }

        /** The other's steps from one index up to (not with) another, bits named by more. */
        void pushOn(BitList other, int from, int to, int more) {
            for (int i = Math.max(from, 0); i < to && i < other.size; i++) {
                push(other.steps[i] + more);
            }
        }

        /** The same steps the other way, the last one first. */
        void pushBack(BitList other, int from, int to) {
            for (int i = Math.min(to, other.size) - 1; i >= from && i >= 0; i--) {
                push(other.steps[i]);
            }
        }

        void copyFrom(BitList other) {
            exists = other.exists;
            width = other.width;
            low = other.low;
            high = other.high;
            size = other.size;
            System.arraycopy(other.steps, 0, steps, 0, other.size);
            System.arraycopy(other.words, 0, words, 0, other.size + 1);
        }

        boolean matches(BitList other) {
            if (exists != other.exists || width != other.width || size != other.size) {
                return false;
            }
            if (low != other.low || high != other.high || words[0] != other.words[0]) {
                return false;
            }
            for (int i = 0; i < size; i++) {
                if (steps[i] != other.steps[i]) {
                    return false;
                }
            }
            return true;
        }

        int lastWord() {
            return words[size];
        }

        boolean comesRound() {
            return size > 0 && words[size] == words[0];
        }

        int shown() {
            return comesRound() ? size : size + 1;
        }

        boolean hasBit(int bit) {
            return bit >= 0 && bit < width;
        }

        boolean hasWord(int word) {
            return word >= 0 && word < allWords();
        }

        boolean hasPlace(int place) {
            return place >= 0 && place <= size;
        }

        int allWords() {
            return 1 << width;
        }

        boolean inScope(int word) {
            int ones = Integer.bitCount(word);
            return ones >= low && ones <= high;
        }

        int scopeSize() {
            int found = 0;
            for (int word = 0; word < allWords(); word++) {
                if (inScope(word)) {
                    found++;
                }
            }
            return found;
        }

        int turnsOf(int bit) {
            int found = 0;
            for (int i = 0; i < size; i++) {
                if (steps[i] == bit) {
                    found++;
                }
            }
            return found;
        }

        int bitAt(int place, int bit) {
            return (words[place] >> bit) & 1;
        }

        /** The lower of the two levels between which the i-th step goes. */
        int rungOf(int i) {
            return Math.min(Integer.bitCount(words[i]), Integer.bitCount(words[i + 1]));
        }

        boolean canTwist(int i, int j) {
            return Integer.bitCount(words[i] ^ words[j]) == 1
                && Integer.bitCount(words[i + 1] ^ words[j + 1]) == 1;
        }
    }

    /** What the latest acts had found in their slots, in a ring so that the oldest is forgotten. */
    private static final class History {
        private final BitList[] kept;
        private final int[] slotOf;
        private int next;
        int depth;

        History() {
            kept = new BitList[MOST_ACTS];
            for (int i = 0; i < MOST_ACTS; i++) {
                kept[i] = new BitList();
            }
            slotOf = new int[MOST_ACTS];
            next = 0;
            depth = 0;
        }

        void keep(int slot, BitList list) {
            kept[next].copyFrom(list);
            slotOf[next] = slot;
            next = next + 1 == MOST_ACTS ? 0 : next + 1;
            depth = Math.min(depth + 1, MOST_ACTS);
        }

        int latestSlot() {
            return slotOf[latest()];
        }

        void takeBack(BitList into) {
            if (depth > 0) {
                next = latest();
                depth--;
                into.copyFrom(kept[next]);
            }
        }

        private int latest() {
            return next == 0 ? MOST_ACTS - 1 : next - 1;
        }
    }

    /** A row of bytes with a most: the tape, and what is told. */
    private static final class Bytes {
        private final byte[] row;
        int length;

        Bytes(int most) {
            row = new byte[Math.max(most, 0)];
            length = 0;
        }

        boolean hasRoom(int more) {
            return length + more <= row.length;
        }

        int at(int i) {
            return i < 0 || i >= length ? NONE : row[i] & 255;
        }

        void put(int value) {
            if (length < row.length) {
                row[length] = (byte) value;
                length++;
            }
        }

        void putFour(int number) {
            put(number >>> 24);
            put(number >>> 16);
            put(number >>> 8);
            put(number);
        }

        void putSigns(String text) {
            for (int i = 0; i < text.length(); i++) {
                put(text.charAt(i));
            }
        }

        /** No number that is told has more than three digits. */
        void putNumber(int number) {
            if (number >= 100) {
                put('0' + number / 100 % 10);
            }
            if (number >= 10) {
                put('0' + number / 10 % 10);
            }
            put('0' + number % 10);
        }

        void putText(BitList list) {
            putSigns("bits ");
            putNumber(list.width);
            putSigns(" levels ");
            putNumber(list.low);
            putSigns(" to ");
            putNumber(list.high);
            putSigns(" start ");
            putNumber(list.words[0]);
            put(':');
            for (int i = 0; i < list.size; i++) {
                put('0' + list.steps[i]);
            }
            put(';');
        }

        void putWords(BitList list) {
            int shown = list.shown();
            for (int place = 0; place < shown; place++) {
                for (int bit = list.width - 1; bit >= 0; bit--) {
                    put('0' + list.bitAt(place, bit));
                }
                put('\n');
            }
        }
    }

    /** The tape, and how a text on it is read: token by token, up to the first fault. */
    private static final class Reader {
        private static final int AT_END = 0;
        private static final int LETTERS = 1;
        private static final int DIGITS = 2;
        private static final int SIGN = 3;

        private static final int MISPLACED = 1;
        private static final int OUT_OF_BOUNDS = 2;
        private static final int NO_SUCH_BIT = 3;
        private static final int ONE_BIT_MORE = 4;
        /** Above every bound of the text, so that longer numbers need not be told apart. */
        private static final int ENOUGH = 1000;

        final Bytes tape;
        private int kind;
        private int from;
        private int to;
        int fault;
        int place;

        Reader() {
            tape = new Bytes(MOST_TAPE);
            fault = 0;
            place = NONE;
        }

        boolean reads(BitList into) {
            fault = 0;
            place = NONE;
            to = 0;
            advance();
            readsHead(into);
            if (fault == 0) {
                readsBits(into);
            }
            expectSign(';');
            if (fault == 0 && kind != AT_END) {
                blame(MISPLACED, from);
            }
            return fault == 0;
        }

        private void readsHead(BitList into) {
            expectLetters("bits");
            int width = expectNumber(1, MOST_BITS);
            int low = 0;
            int high = width;
            if (fault == 0 && isLetters("levels")) {
                advance();
                low = expectNumber(0, width);
                expectLetters("to");
                high = expectNumber(low, width);
            }
            expectLetters("start");
            int start = expectNumber(0, (1 << width) - 1);
            expectSign(':');
            if (fault == 0) {
                into.begin(width, low, high, start);
            }
        }

        private void readsBits(BitList into) {
            if (kind != DIGITS) {
                return;
            }
            for (int at = from; at < to && fault == 0; at++) {
                int bit = tape.at(at) - '0';
                if (!into.hasBit(bit)) {
                    blame(NO_SUCH_BIT, at);
                } else if (into.size >= MOST_STEPS) {
                    blame(ONE_BIT_MORE, at);
                } else {
                    into.push(bit);
                }
            }
            if (fault == 0) {
                advance();
            }
        }

        private void blame(int what, int at) {
            fault = what;
            place = at;
        }

        private void expectLetters(String letters) {
            if (fault == 0) {
                if (isLetters(letters)) {
                    advance();
                } else {
                    blame(MISPLACED, from);
                }
            }
        }

        private void expectSign(char sign) {
            if (fault == 0) {
                if (kind == SIGN && tape.at(from) == sign) {
                    advance();
                } else {
                    blame(MISPLACED, from);
                }
            }
        }

        /** Behind a fault the answer is the least that is allowed, and nobody uses it. */
        private int expectNumber(int least, int most) {
            if (fault != 0) {
                return least;
            }
            if (kind != DIGITS) {
                blame(MISPLACED, from);
                return least;
            }
            int value = 0;
            for (int at = from; at < to && value < ENOUGH; at++) {
                value = value * 10 + tape.at(at) - '0';
            }
            if (value < least || value > most) {
                blame(OUT_OF_BOUNDS, from);
                return least;
            }
            advance();
            return value;
        }

        private boolean isLetters(String letters) {
            if (kind != LETTERS || to - from != letters.length()) {
                return false;
            }
            for (int i = 0; i < letters.length(); i++) {
                if (tape.at(from + i) != letters.charAt(i)) {
                    return false;
                }
            }
            return true;
        }

        private void advance() {
            from = to;
            while (from < tape.length && isBlank(tape.at(from))) {
                from++;
            }
            to = from;
            if (from >= tape.length) {
                kind = AT_END;
                return;
            }
            kind = kindOf(tape.at(from));
            to++;
            while (kind != SIGN && to < tape.length && kindOf(tape.at(to)) == kind) {
                to++;
            }
        }

        private static boolean isBlank(int value) {
            return value == ' ' || value == '\n';
        }

        private static int kindOf(int value) {
            if (value >= 'a' && value <= 'z') {
                return LETTERS;
            }
            return value >= '0' && value <= '9' ? DIGITS : SIGN;
        }
    }

    /** Answers about one list that change nothing. */
    private static final class Survey {
        private final int[] timesShown;
        private final int[] placeOf;
        private final int[] distance;
        private final int[] queue;
        private final int[] farthest;

        Survey() {
            timesShown = new int[MOST_WORDS];
            placeOf = new int[MOST_WORDS];
            distance = new int[MOST_WORDS];
            queue = new int[MOST_WORDS];
            farthest = new int[MOST_BITS + 1];
        }

        private void countShown(BitList list) {
            Arrays.fill(timesShown, 0);
            int shown = list.shown();
            for (int place = 0; place < shown; place++) {
                timesShown[list.words[place]]++;
                placeOf[list.words[place]] = place;
            }
        }

        int unlikeWords(BitList list) {
            countShown(list);
            int found = 0;
            for (int word = 0; word < list.allWords(); word++) {
                if (timesShown[word] > 0) {
                    found++;
                }
            }
            return found;
        }

        boolean isClean(BitList list) {
            return unlikeWords(list) == list.shown();
        }

        boolean isFull(BitList list) {
            countShown(list);
            for (int word = 0; word < list.allWords(); word++) {
                if (timesShown[word] != (list.inScope(word) ? 1 : 0)) {
                    return false;
                }
            }
            return true;
        }

        static boolean isMonotone(BitList list) {
            int highest = 0;
            for (int i = 0; i < list.size; i++) {
                int rung = list.rungOf(i);
                if (highest >= rung + 2) {
                    return false;
                }
                highest = Math.max(highest, rung);
            }
            return true;
        }

        boolean isSnake(BitList list) {
            if (!isClean(list)) {
                return false;
            }
            int shown = list.shown();
            for (int place = 0; place < shown; place++) {
                for (int bit = 0; bit < list.width; bit++) {
                    int word = list.words[place] ^ (1 << bit);
                    if (timesShown[word] > 0 && placesBetween(list, place, placeOf[word]) > 1) {
                        return false;
                    }
                }
            }
            return true;
        }

        /** How far two shown places are from each other, in a loop the nearer way. */
        private static int placesBetween(BitList list, int one, int two) {
            int far = Math.abs(one - two);
            return list.comesRound() ? Math.min(far, list.size - far) : far;
        }

        static boolean isOpposite(BitList list) {
            if (!list.comesRound()) {
                return false;
            }
            int half = list.size / 2;
            int all = list.allWords() - 1;
            for (int place = 0; place < half; place++) {
                if ((list.words[place] ^ list.words[place + half]) != all) {
                    return false;
                }
            }
            return half * 2 == list.size;
        }

        static boolean isOneTrack(BitList list) {
            if (!list.comesRound()) {
                return false;
            }
            for (int bit = 0; bit < list.width; bit++) {
                if (trackShift(list, bit) == NONE) {
                    return false;
                }
            }
            return true;
        }

        static int trackShift(BitList list, int bit) {
            if (!list.comesRound()) {
                return NONE;
            }
            for (int by = 0; by < list.size; by++) {
                if (isRolled(list, bit, by)) {
                    return by;
                }
            }
            return NONE;
        }

        private static boolean isRolled(BitList list, int bit, int by) {
            int other = by;
            for (int place = 0; place < list.size; place++) {
                if (list.bitAt(place, bit) != list.bitAt(other, 0)) {
                    return false;
                }
                other = other + 1 >= list.size ? 0 : other + 1;
            }
            return true;
        }

        int lackedWord(BitList list, int k) {
            countShown(list);
            int left = k;
            for (int word = 0; word < list.allWords(); word++) {
                if (timesShown[word] == 0 && list.inScope(word)) {
                    if (left == 0) {
                        return word;
                    }
                    left--;
                }
            }
            return NONE;
        }

        /** The bit that has just k bits ahead of it. */
        static int bitByTurns(BitList list, int k) {
            for (int bit = 0; bit < list.width; bit++) {
                int turns = list.turnsOf(bit);
                int ahead = 0;
                for (int other = 0; other < list.width; other++) {
                    int others = list.turnsOf(other);
                    if (others > turns || others == turns && other < bit) {
                        ahead++;
                    }
                }
                if (ahead == k) {
                    return bit;
                }
            }
            return NONE;
        }

        static int unevenness(BitList list) {
            int most = 0;
            int least = MOST_STEPS;
            for (int bit = 0; bit < list.width; bit++) {
                int turns = list.turnsOf(bit);
                most = Math.max(most, turns);
                least = Math.min(least, turns);
            }
            return most - least;
        }

        static int leastGap(BitList list) {
            int least = NONE;
            for (int bit = 0; bit < list.width; bit++) {
                least = lesser(least, gapOf(list, bit));
            }
            return least;
        }

        static int gapOf(BitList list, int bit) {
            int least = NONE;
            int first = NONE;
            int latest = NONE;
            for (int i = 0; i < list.size; i++) {
                if (list.steps[i] == bit) {
                    if (first == NONE) {
                        first = i;
                    } else {
                        least = lesser(least, i - latest);
                    }
                    latest = i;
                }
            }
            if (first != NONE && list.comesRound()) {
                least = lesser(least, first + list.size - latest);
            }
            return least;
        }

        private static int lesser(int one, int two) {
            if (one == NONE) {
                return two;
            }
            return two == NONE ? one : Math.min(one, two);
        }

        static int longestRow(BitList list, int bit, int v) {
            int shown = list.shown();
            int longest = 0;
            int row = 0;
            // A loop is gone through twice, so that a row over its seam is met whole.
            int rounds = list.comesRound() ? 2 : 1;
            for (int round = 0; round < rounds; round++) {
                for (int place = 0; place < shown; place++) {
                    row = list.bitAt(place, bit) == v ? row + 1 : 0;
                    longest = Math.max(longest, row);
                }
            }
            return Math.min(longest, shown);
        }

        static int rowsOf(BitList list, int bit, int v) {
            int shown = list.shown();
            int rows = 0;
            for (int place = 0; place < shown; place++) {
                boolean begins = place == 0 || list.bitAt(place - 1, bit) != v;
                if (begins && list.bitAt(place, bit) == v) {
                    rows++;
                }
            }
            boolean overSeam = list.comesRound()
                && list.bitAt(0, bit) == v && list.bitAt(shown - 1, bit) == v;
            return overSeam && rows > 1 ? rows - 1 : rows;
        }

        static int placeOfLevel(BitList list, int level, boolean last) {
            int shown = list.shown();
            int found = NONE;
            for (int place = 0; place < shown; place++) {
                if (Integer.bitCount(list.words[place]) == level && (last || found == NONE)) {
                    found = place;
                }
            }
            return found;
        }

        static int stepsBetween(BitList list, int fromLevel, int toLevel) {
            int found = 0;
            for (int i = 0; i < list.size; i++) {
                if (Integer.bitCount(list.words[i]) == fromLevel
                    && Integer.bitCount(list.words[i + 1]) == toLevel) {
                    found++;
                }
            }
            return found;
        }

        int widestSpread(BitList list) {
            if (!isClean(list)) {
                return NONE;
            }
            measureFarthest(list);
            for (int k = list.width; k > 1; k--) {
                if (spreadHolds(k)) {
                    return k;
                }
            }
            return 1;
        }

        /** For each number of bits unlike, how far apart the farthest such shown places are. */
        private void measureFarthest(BitList list) {
            Arrays.fill(farthest, 0);
            int shown = list.shown();
            for (int one = 0; one < shown; one++) {
                for (int two = one + 1; two < shown; two++) {
                    int unlike = Integer.bitCount(list.words[one] ^ list.words[two]);
                    farthest[unlike] = Math.max(farthest[unlike], placesBetween(list, one, two));
                }
            }
        }

        private boolean spreadHolds(int k) {
            for (int unlike = 0; unlike < k; unlike++) {
                if (farthest[unlike] >= k) {
                    return false;
                }
            }
            return true;
        }

        int openBits(BitList list) {
            countShown(list);
            int bits = 0;
            for (int bit = 0; bit < list.width; bit++) {
                int word = list.lastWord() ^ (1 << bit);
                if (timesShown[word] == 0 && list.inScope(word)) {
                    bits = bits | (1 << bit);
                }
            }
            return bits;
        }

        /** Goes outward from the first word, each word once, the nearer ones first. */
        int shortestWay(BitList list, int word, int other) {
            countShown(list);
            Arrays.fill(distance, NONE);
            distance[word] = 0;
            queue[0] = word;
            int filled = 1;
            for (int done = 0; done < filled && distance[other] == NONE; done++) {
                int here = queue[done];
                for (int bit = 0; bit < list.width; bit++) {
                    int next = here ^ (1 << bit);
                    boolean free = next == other || timesShown[next] == 0 && list.inScope(next);
                    if (distance[next] == NONE && free && filled < MOST_WORDS) {
                        distance[next] = distance[here] + 1;
                        queue[filled] = next;
                        filled++;
                    }
                }
            }
            return distance[other];
        }

        static int twistablePairs(BitList list) {
            int found = 0;
            for (int i = 0; i < list.size; i++) {
                for (int j = i + 2; j < list.size; j++) {
                    if (list.canTwist(i, j)) {
                        found++;
                    }
                }
            }
            return found;
        }
    }

    /** Makes lists by rules, always into another list than those it reads. */
    private static final class Maker {
        static void reflected(BitList list, BitList made) {
            made.beginLike(list, list.words[0]);
            for (int i = 1; i < list.allWords(); i++) {
                made.push(Integer.numberOfTrailingZeros(i));
            }
            made.push(list.width - 1);
        }

        static void ladder(BitList list, BitList made) {
            made.beginLike(list, list.words[0]);
            for (int round = 0; round < 2; round++) {
                for (int bit = 0; bit < list.width; bit++) {
                    made.push(bit);
                }
            }
        }

        static void twice(BitList list, BitList made) {
            made.copyFrom(list);
            made.pushOn(list, 0, list.size, 0);
        }

        /** Cuts lie behind places that have one behind them, and are evenly many. */
        static boolean canBeCut(BitList list, long cuts) {
            int places = Math.max(list.size - 1, 0);
            long beyond = places >= 64 ? 0L : cuts >>> places;
            return beyond == 0L && Long.bitCount(cuts) % 2 == 0;
        }

        static boolean isCut(long cuts, int place) {
            return place < 64 && ((cuts >>> place) & 1L) == 1L;
        }

        static void extended(BitList loop, long cuts, BitList made) {
            int one = loop.width;
            int other = loop.width + 1;
            made.begin(loop.width + 2, 0, loop.width + 2, loop.words[0]);
            int from = 0;
            for (int place = 0; place < loop.size; place++) {
                boolean last = place == loop.size - 1;
                if (last || isCut(cuts, place)) {
                    made.pushOn(loop, from, place, 0);
                    made.push(one);
                    made.pushBack(loop, from, place);
                    made.push(other);
                    made.pushOn(loop, from, place, 0);
                    if (!last) {
                        made.push(loop.steps[place]);
                    }
                    from = place + 1;
                    int kept = one;
                    one = other;
                    other = kept;
                }
            }
            made.push(loop.width);
            made.pushBack(loop, 0, loop.size - 1);
            made.push(loop.width + 1);
        }

        /** The p steps there are come again for every further roll of the bits, till it is round. */
        static void toldRolled(BitList list, int p, int r) {
            int by = 0;
            for (int block = 1; block < list.width; block++) {
                by = by + r >= list.width ? by + r - list.width : by + r;
                for (int i = 0; i < p && i < list.size; i++) {
                    int bit = list.steps[i] + by;
                    list.push(bit >= list.width ? bit - list.width : bit);
                }
            }
        }

        static void multiplied(BitList one, BitList two, BitList made) {
            int width = one.width + two.width;
            made.begin(width, 0, width, one.words[0] | (two.words[0] << one.width));
            for (int i = 0; i <= two.size; i++) {
                if (i % 2 == 0) {
                    made.pushOn(one, 0, one.size, 0);
                } else {
                    made.pushBack(one, 0, one.size);
                }
                made.pushOn(two, i, i + 1, one.width);
            }
        }

        static void twisted(BitList list, int i, int j, BitList made) {
            made.beginLike(list, list.words[0]);
            made.pushOn(list, 0, i, 0);
            made.push(Integer.numberOfTrailingZeros(list.words[i] ^ list.words[j]));
            made.pushBack(list, i + 1, j);
            made.push(Integer.numberOfTrailingZeros(list.words[i + 1] ^ list.words[j + 1]));
            made.pushOn(list, j + 1, list.size, 0);
        }

        static void detoured(BitList list, int i, int bit, BitList made) {
            made.beginLike(list, list.words[0]);
            made.pushOn(list, 0, i, 0);
            made.push(bit);
            made.pushOn(list, i, i + 1, 0);
            made.push(bit);
            made.pushOn(list, i + 1, list.size, 0);
        }

        static void mirrored(BitList list, BitList made) {
            int start = 0;
            for (int bit = 0; bit < list.width; bit++) {
                start = start | (list.bitAt(0, bit) << (list.width - 1 - bit));
            }
            made.beginLike(list, start);
            for (int i = 0; i < list.size; i++) {
                made.push(list.width - 1 - list.steps[i]);
            }
        }

        static void swapped(BitList list, int a, int b, BitList made) {
            int start = list.words[0];
            if (list.bitAt(0, a) != list.bitAt(0, b)) {
                start = start ^ (1 << a) ^ (1 << b);
            }
            made.beginLike(list, start);
            for (int i = 0; i < list.size; i++) {
                int bit = list.steps[i];
                made.push(bit == a ? b : bit == b ? a : bit);
            }
        }
    }

    /** Searches step by step, the least bit first, and goes back where no step is left. */
    private static final class Search {
        private static final int LOOPS = 1;
        private static final int MONOTONE = 2;
        private static final int OPPOSITE = 3;
        /** Each step is taken once and gone back once at most, so this is never reached. */
        private static final int MOST_TURNS = 1000000;

        private final int[] barred;
        private final int[] nextBit;
        private final int[] highestRung;

        Search() {
            barred = new int[MOST_WORDS];
            nextBit = new int[MOST_STEPS + 1];
            highestRung = new int[MOST_STEPS + 1];
        }

        int byLaw(BitList list, int law, int tries, BitList path) {
            int start = list.words[0];
            if (!list.inScope(start)) {
                return NONE;
            }
            barOutsideScope(list);
            path.beginLike(list, start);
            barred[start] = 1;
            nextBit[0] = 0;
            highestRung[0] = 0;
            int wanted = list.scopeSize() - 1;
            int taken = 0;
            for (int turn = 0; turn < MOST_TURNS; turn++) {
                if (path.size == wanted && isAccepted(path, law)) {
                    return path.size;
                }
                int bit = freeBit(path, law);
                if (bit == NONE) {
                    if (path.size == 0) {
                        return NONE;
                    }
                    barred[path.lastWord()] = 0;
                    path.pop();
                } else if (taken == tries) {
                    return TOO_LONG;
                } else {
                    taken++;
                    takeStep(path, bit);
                    barred[path.lastWord()] = 1;
                }
            }
            return TOO_LONG;
        }

        private void barOutsideScope(BitList list) {
            for (int word = 0; word < list.allWords(); word++) {
                barred[word] = list.inScope(word) ? 0 : 1;
            }
        }

        /** By the laws of loops a path that can be closed is closed here, or left as it was. */
        private static boolean isAccepted(BitList path, int law) {
            if (law != LOOPS && law != OPPOSITE) {
                return true;
            }
            int unlike = path.lastWord() ^ path.words[0];
            if (Integer.bitCount(unlike) != 1) {
                return false;
            }
            path.push(Integer.numberOfTrailingZeros(unlike));
            if (law == OPPOSITE && !Survey.isOpposite(path)) {
                path.pop();
                return false;
            }
            return true;
        }

        private int freeBit(BitList path, int law) {
            int here = path.lastWord();
            for (int bit = nextBit[path.size]; bit < path.width; bit++) {
                int word = here ^ (1 << bit);
                if (barred[word] == 0 && (law != MONOTONE || staysMonotone(path, word))) {
                    return bit;
                }
            }
            return NONE;
        }

        private boolean staysMonotone(BitList path, int word) {
            int rung = Math.min(Integer.bitCount(path.lastWord()), Integer.bitCount(word));
            return highestRung[path.size] < rung + 2;
        }

        private void takeStep(BitList path, int bit) {
            int depth = path.size;
            if (depth < MOST_STEPS) {
                nextBit[depth] = bit + 1;
                path.push(bit);
                nextBit[depth + 1] = 0;
                highestRung[depth + 1] = Math.max(highestRung[depth], path.rungOf(depth));
            }
        }

        int forTracks(BitList list, int p, int r, int tries, BitList path) {
            int start = list.words[0];
            barRolledToThemselves(list.width);
            if (barred[start] == 1) {
                return NONE;
            }
            path.beginLike(list, start);
            barRolls(start, list.width, 1);
            nextBit[0] = 0;
            highestRung[0] = 0;
            int goal = rolled(start, r, list.width);
            int taken = 0;
            for (int turn = 0; turn < MOST_TURNS; turn++) {
                boolean last = path.size == p - 1;
                int bit = last ? bitTo(path, goal) : freeBit(path, 0);
                if (bit == NONE) {
                    if (path.size == 0) {
                        return NONE;
                    }
                    barRolls(path.lastWord(), path.width, 0);
                    path.pop();
                } else if (taken == tries) {
                    return TOO_LONG;
                } else {
                    taken++;
                    takeStep(path, bit);
                    if (last) {
                        return path.size;
                    }
                    barRolls(path.lastWord(), path.width, 1);
                }
            }
            return TOO_LONG;
        }

        private void barRolledToThemselves(int width) {
            for (int word = 0; word < 1 << width; word++) {
                barred[word] = 0;
                for (int by = 1; by < width; by++) {
                    if (rolled(word, by, width) == word) {
                        barred[word] = 1;
                    }
                }
            }
        }

        private void barRolls(int word, int width, int value) {
            for (int by = 0; by < width; by++) {
                barred[rolled(word, by, width)] = value;
            }
        }

        private static int rolled(int word, int by, int width) {
            int all = (1 << width) - 1;
            return ((word << by) | (word >> (width - by))) & all;
        }

        private static int bitTo(BitList path, int goal) {
            int unlike = path.lastWord() ^ goal;
            return Integer.bitCount(unlike) == 1 ? Integer.numberOfTrailingZeros(unlike) : NONE;
        }
    }

    /** Whether two lists are the same but for the names of bits; loops also from elsewhere, or back. */
    private static final class Likeness {
        private final int[] toTwo;
        private final int[] toOne;

        Likeness() {
            toTwo = new int[MOST_BITS];
            toOne = new int[MOST_BITS];
        }

        boolean holds(BitList one, BitList two) {
            if (one.size != two.size || one.comesRound() != two.comesRound()) {
                return false;
            }
            if (!one.comesRound()) {
                return agrees(one, two, 0, true);
            }
            for (int from = 0; from < two.size; from++) {
                if (agrees(one, two, from, true) || agrees(one, two, from, false)) {
                    return true;
                }
            }
            return false;
        }

        /** Names given by first turns are the same just when each bit of one answers to one of two. */
        private boolean agrees(BitList one, BitList two, int from, boolean on) {
            Arrays.fill(toTwo, NONE);
            Arrays.fill(toOne, NONE);
            int at = from;
            for (int i = 0; i < one.size; i++) {
                int bit = one.steps[i];
                int other = two.steps[at];
                if (toTwo[bit] == NONE && toOne[other] == NONE) {
                    toTwo[bit] = other;
                    toOne[other] = bit;
                } else if (toTwo[bit] != other) {
                    return false;
                }
                at = on ? at + 1 : at - 1;
                at = at >= two.size ? 0 : at < 0 ? two.size - 1 : at;
            }
            return true;
        }
    }

    /**
     * The cuts by which an extended loop is turned most evenly. A step that is cut is told twice, one
     * that is not four times, and each new bit is turned twice and once for each cut: so it matters
     * only how many steps of each bit are cut, and of these the first ones make the least number.
     */
    private static final class Evenness {
        private final int[] told;
        private final int[] cut;
        private final int[] left;
        int least;
        long leastCuts;

        Evenness() {
            told = new int[MOST_BITS];
            cut = new int[MOST_BITS];
            left = new int[MOST_BITS];
            least = 0;
            leastCuts = 0L;
        }

        void seek(BitList loop) {
            countTold(loop);
            least = MOST_STEPS;
            leastCuts = 0L;
            boolean more = true;
            // Sixteen steps can be cut in fewer ways than they have subsets.
            for (int turn = 0; more && turn < 1 << MOST_EVENEST_STEPS; turn++) {
                weigh(loop);
                more = nextChoice(loop.width);
            }
        }

        /** The step that closes the loop is never told in an extended one. */
        private void countTold(BitList loop) {
            Arrays.fill(told, 0);
            Arrays.fill(cut, 0);
            for (int i = 0; i < loop.size - 1; i++) {
                told[loop.steps[i]]++;
            }
        }

        private boolean nextChoice(int width) {
            for (int bit = 0; bit < width; bit++) {
                if (cut[bit] < told[bit]) {
                    cut[bit]++;
                    return true;
                }
                cut[bit] = 0;
            }
            return false;
        }

        private void weigh(BitList loop) {
            int all = 0;
            for (int bit = 0; bit < loop.width; bit++) {
                all = all + cut[bit];
            }
            if (all % 2 != 0) {
                return;
            }
            int most = all + 2;
            int fewest = all + 2;
            for (int bit = 0; bit < loop.width; bit++) {
                int turns = 4 * told[bit] - 2 * cut[bit];
                most = Math.max(most, turns);
                fewest = Math.min(fewest, turns);
            }
            int uneven = most - fewest;
            if (uneven <= least) {
                long number = firstCuts(loop);
                leastCuts = uneven < least ? number : Math.min(leastCuts, number);
                least = uneven;
            }
        }

        private long firstCuts(BitList loop) {
            System.arraycopy(cut, 0, left, 0, MOST_BITS);
            long number = 0L;
            for (int place = 0; place < loop.size - 1; place++) {
                int bit = loop.steps[place];
                if (left[bit] > 0) {
                    left[bit]--;
                    number = number | (1L << place);
                }
            }
            return number;
        }
    }
}
