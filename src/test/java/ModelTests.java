import java.lang.reflect.Method;
import java.util.HashMap;
import java.util.Map;
import java.util.Random;

/** Long runs of mixed calls, each answer held against NaiveLists; the seeds are fixed. */
public final class ModelTests {
    private static final int RUNS = 2500;
    /** An object is good for 512 calls; behind this many there is room for a text and a look. */
    private static final int CALLS = 460;
    private static final int MOST_CALLS = 512;
    private static final int OCTETS_A_LOOK = 12;
    private static final int[] ODD_NUMBERS = {
        -1, -2, -3, 3, 8, 9, 16, 64, 255, 256, 257, 50000, 50001,
        Integer.MIN_VALUE, Integer.MAX_VALUE, 1 << 30, 1431655765,
    };

    /** A letter for each argument: s slot, b bit, w word, p place, f 0 or 1, m small, n none. */
    private static final String[] CALL_FORMS = {
        "told s", "end p", "fault m", "count m", "look sm", "is sm", "word sp", "step sp",
        "where swf", "lacks sm", "turned sb", "order sb", "uneven s", "gap sb", "run sbf",
        "parts sbf", "level sbf", "same ss", "shift sb", "apart spp", "spread s", "climbs sbf",
        "code w", "rank w", "ruler p", "makes sm", "finds slt", "extend sc", "open s", "way sww",
        "evenest sf", "tracks sqrt", "product sss", "twists spp", "twistable s", "detour spb",
        "mirror s", "starts sw", "swaps sbb", "reverse s", "rolls sp", "adds sb", "cuts sm",
        "alike ss", "drops s", "undo n", "tell sf", "octet p",
    };

    private final Random random;
    private final OneAtATime x = new OneAtATime();
    private final NaiveLists due = new NaiveLists();
    private final StringBuilder log = new StringBuilder();
    private int made = 0;
    private int wrong = 0;

    private ModelTests(long seed) {
        random = new Random(seed);
    }

    public static void main(String[] args) throws Exception {
        int wrong = 0;
        Map<String, Integer> reached = new HashMap<>();
        for (int run = 0; run < RUNS && wrong < 5; run++) {
            ModelTests test = new ModelTests(run);
            test.runs(run, reached);
            wrong += test.wrong;
        }
        for (String form : CALL_FORMS) {
            String name = form.substring(0, form.indexOf(' '));
            if (reached.getOrDefault(name, 0) < 200) {
                System.out.println(name + " was hardly answered but by a refusal");
                wrong++;
            }
        }
        System.out.println(wrong == 0 ? "all runs agree" : wrong + " answers do not agree");
        if (wrong != 0) {
            System.exit(1);
        }
    }

    private void runs(int run, Map<String, Integer> reached) throws Exception {
        boolean small = run % 4 != 0;
        for (int slot = 0; slot < 3; slot++) {
            feeds(text(small));
            calls("told", new Object[] {slot}, reached);
        }
        while (made < CALLS && wrong == 0) {
            int kind = random.nextInt(24);
            if (kind == 0) {
                feeds(random.nextInt(3) == 0 ? broken(text(small)) : text(small));
                calls("told", new Object[] {slot()}, reached);
            } else {
                String form = CALL_FORMS[random.nextInt(CALL_FORMS.length)];
                if (form.startsWith("drops") && random.nextInt(4) != 0) {
                    continue;
                }
                int blank = form.indexOf(' ');
                calls(form.substring(0, blank), arguments(form.substring(blank + 1)), reached);
            }
        }
        if (wrong > 0) {
            System.out.println("run " + run + ":\n" + log);
        }
    }

    private void feeds(String text) {
        for (int from = 0; from < text.length(); from += 20) {
            int[] n = new int[5];
            for (int i = 0; i < 20; i++) {
                int value = from + i < text.length() ? text.charAt(from + i) & 255 : 0;
                n[i / 4] = n[i / 4] << 8 | value;
            }
            compares("feed", x.feed(n[0], n[1], n[2], n[3], n[4]),
                due.feed(n[0], n[1], n[2], n[3], n[4]));
        }
        compares("end", x.end(text.length()), due.end(text.length()));
    }

    private void calls(String name, Object[] arguments, Map<String, Integer> reached)
            throws Exception {
        Class<?>[] types = new Class<?>[arguments.length];
        for (int i = 0; i < types.length; i++) {
            types[i] = arguments[i] instanceof Long ? long.class : int.class;
        }
        Method one = OneAtATime.class.getMethod(name, types);
        Method two = NaiveLists.class.getDeclaredMethod(name, types);
        long got = ((Number) one.invoke(x, arguments)).longValue();
        long want = ((Number) two.invoke(due, arguments)).longValue();
        if (want >= 0) {
            reached.merge(name, 1, Integer::sum);
        }
        compares(name + java.util.Arrays.toString(arguments), got, want);
        if (random.nextInt(6) == 0) {
            compares("acts", x.count(1), due.count(1));
            compares("fault", x.fault(0), due.fault(0));
            compares("fault's place", x.fault(1), due.fault(1));
            int slot = random.nextInt(3);
            compares("tell", x.tell(slot, 0), due.tell(slot, 0));
            compares("out", x.count(3), due.count(3));
            for (int i = 0; i < OCTETS_A_LOOK; i++) {
                int at = random.nextInt(due.count(3) + 2) - 1;
                compares("octet " + at, x.octet(at), due.octet(at));
            }
        }
    }

    private void compares(String call, long got, long want) {
        made++;
        if (made > MOST_CALLS) {
            wrong++;
            log.append("BUT the object is used up\n");
        }
        log.append(call).append(" -> ").append(want).append('\n');
        if (got != want) {
            wrong++;
            log.append("BUT ").append(got).append('\n');
        }
    }

    private int slot() {
        return random.nextInt(25) == 0 ? odd() : random.nextInt(3);
    }

    private int odd() {
        return ODD_NUMBERS[random.nextInt(ODD_NUMBERS.length)];
    }

    private Object[] arguments(String kinds) {
        if (kinds.equals("n")) {
            return new Object[0];
        }
        Object[] arguments = new Object[kinds.length()];
        int slot = slot();
        int size = Math.max(due.look(slot, 4), 0);
        int width = Math.max(due.look(slot, 0), 1);
        for (int i = 0; i < arguments.length; i++) {
            char kind = kinds.charAt(i);
            if (kind == 'c') {
                arguments[i] = someCuts(size);
            } else if (kind == 's') {
                arguments[i] = i == 0 ? slot : slot();
            } else if (random.nextInt(30) == 0) {
                arguments[i] = odd();
            } else {
                arguments[i] = argument(kind, size, width);
            }
        }
        return arguments;
    }

    private int argument(char kind, int size, int width) {
        switch (kind) {
            case 'b': return random.nextInt(width + 2) - 1;
            case 'w': return random.nextInt(1 << width);
            case 'p': return random.nextInt(size + 2);
            case 'f': return random.nextInt(2);
            case 'l': return random.nextInt(4);
            case 't': return random.nextInt(3) == 0 ? 2000 : 1 + random.nextInt(120);
            case 'q': return 1 + random.nextInt(8);
            case 'r': return 1 + random.nextInt(width);
            default: return random.nextInt(9) - (random.nextInt(5) == 0 ? 1 : 0);
        }
    }

    private long someCuts(int size) {
        if (random.nextInt(10) == 0) {
            return random.nextLong();
        }
        long cuts = random.nextLong() & random.nextLong();
        cuts &= size - 1 >= 64 ? -1L : size < 1 ? 0L : (1L << size - 1) - 1;
        if (Long.bitCount(cuts) % 2 == 1 && random.nextInt(8) != 0) {
            cuts &= cuts - 1;
        }
        return cuts;
    }

    private String blank() {
        String[] blanks = {" ", "\n", "  ", " \n "};
        return blanks[random.nextInt(blanks.length)];
    }

    private String text(boolean small) {
        int n = 1 + random.nextInt(small ? 4 : 8);
        StringBuilder text = new StringBuilder("bits" + blank() + n + blank());
        if (random.nextInt(4) == 0) {
            int a = random.nextInt(n + 1);
            int b = a + random.nextInt(n + 1 - a);
            text.append("levels" + a + "to" + blank() + b + blank());
        }
        text.append("start" + random.nextInt(1 << n) + ":");
        int steps = random.nextInt(3) == 0 ? 0 : random.nextInt(small ? 12 : 258);
        int kind = random.nextInt(3);
        for (int i = 0; i < steps; i++) {
            int bit = kind == 0 ? i % n
                : kind == 1 ? Integer.numberOfTrailingZeros(i + 1 | 1 << n - 1) : random.nextInt(n);
            text.append(bit);
        }
        return text.append(blank()).append(";").append(random.nextInt(4) == 0 ? " " : "").toString();
    }

    private String broken(String text) {
        StringBuilder changed = new StringBuilder(text);
        int at = random.nextInt(changed.length());
        String signs = "019ab:; \nZ\u00e9\0";
        char sign = signs.charAt(random.nextInt(signs.length()));
        switch (random.nextInt(4)) {
            case 0: changed.deleteCharAt(at); break;
            case 1: changed.insert(at, sign); break;
            case 2: changed.setLength(at); break;
            default: changed.setCharAt(at, sign);
        }
        return changed.toString();
    }
}
