import java.lang.reflect.InvocationTargetException;
import java.lang.reflect.Method;
import java.util.ArrayList;
import java.util.Arrays;
import java.util.Comparator;
import java.util.List;
import java.util.Set;

/**
 * What the boundary tests share: each is a static method that bears its promise's number (p30_..),
 * and a refused call is looked at from all sides by calls on objects made the same way with it and
 * without it. Every look is at a new object, since one is good for 512 calls alone.
 */
final class Edges {
    /** The calls that bring a new object to where a test begins. */
    interface Setup {
        void make(OneAtATime x);
    }

    interface Call {
        long on(OneAtATime x);
    }

    interface SlotCall {
        long on(OneAtATime x, int slot);
    }

    static final String GRAY3 = "bits 3 start 0:01020102;";
    static final String LADDER3 = "bits 3 start 0:012012;";
    static final int LEAST = Integer.MIN_VALUE;
    static final int MOST = Integer.MAX_VALUE;

    private static final int OCTETS_A_LOOK = 300;

    private static String running = "";
    private static int wrong = 0;

    private Edges() {
    }

    /** Runs every test of a class and tells which promises it had tests for. */
    static int runs(Class<?> tests, Set<Integer> promises) throws IllegalAccessException {
        Method[] methods = tests.getDeclaredMethods();
        Arrays.sort(methods, Comparator.comparing(Method::getName));
        int run = 0;
        for (Method method : methods) {
            if (method.getName().matches("p[0-9][0-9]_.*")) {
                running = "promise " + method.getName().substring(1);
                promises.add(Integer.parseInt(method.getName().substring(1, 3)));
                runsOne(method);
                run++;
            }
        }
        return run;
    }

    private static void runsOne(Method method) throws IllegalAccessException {
        try {
            method.setAccessible(true);
            method.invoke(null);
        } catch (InvocationTargetException thrown) {
            fail("threw " + thrown.getCause());
        }
    }

    static int wrong() {
        return wrong;
    }

    static void fail(String what) {
        wrong++;
        System.out.println(running + ": " + what);
    }

    static void due(String call, long got, long want) {
        if (got != want) {
            fail(call + " answered " + got + ", due is " + want);
        }
    }

    static void dueText(String what, String got, String want) {
        if (!got.equals(want)) {
            fail(what + " is " + got + ", due is " + want);
        }
    }

    static OneAtATime fresh(Setup made) {
        OneAtATime x = new OneAtATime();
        made.make(x);
        return x;
    }

    /** Texts for the slots from 0 on; null leaves a slot without a list. */
    static Setup lists(String... texts) {
        return x -> {
            for (int slot = 0; slot < texts.length; slot++) {
                if (texts[slot] != null) {
                    TapeWriter.tells(x, slot, texts[slot]);
                }
            }
        };
    }

    static OneAtATime with(String... texts) {
        OneAtATime x = fresh(lists(texts));
        due("fault of " + texts[texts.length - 1], x.fault(0), 0);
        return x;
    }

    /** A list of some bits whose steps turn bit 0 alone, as many times as told. */
    static String turning(int bits, int steps) {
        return "bits " + bits + " start 0:" + "0".repeat(steps) + ";";
    }

    static String reflected(int bits) {
        StringBuilder text = new StringBuilder("bits " + bits + " start 0:");
        for (int i = 1; i < 1 << bits; i++) {
            text.append(Integer.numberOfTrailingZeros(i));
        }
        return text.append(bits - 1).append(";").toString();
    }

    /**
     * Loops that are full in slots 0 and 2, nothing in slot 1, acts to be undone, a fault, a text on
     * the tape, something in OUT: whatever a call takes away or brings will be seen.
     */
    static void rich(OneAtATime x) {
        TapeWriter.tells(x, 1, "bits 4 start 9:321;");
        TapeWriter.tells(x, 0, GRAY3);
        TapeWriter.tells(x, 2, "bits 2 start 1:0101;");
        x.rolls(0, 3);
        x.drops(1);
        TapeWriter.tells(x, 1, "bits 9 start 0:;");
        TapeWriter.writes(x, "bits 5 levels 1 to 4 start 3:4321;");
        x.tell(2, 1);
    }

    static String steps(OneAtATime x, int slot) {
        StringBuilder steps = new StringBuilder();
        int many = x.look(slot, 4);
        for (int i = 0; i < many; i++) {
            steps.append(x.step(slot, i));
        }
        return steps.toString();
    }

    /** A list as N, A, B, START and STEPS; empty where there is none. */
    static String list(OneAtATime x, int slot) {
        if (x.look(slot, 0) < 0) {
            return "";
        }
        return x.look(slot, 0) + " " + x.look(slot, 1) + " " + x.look(slot, 2) + " "
            + x.look(slot, 3) + ":" + steps(x, slot);
    }

    /** What the slots hold, and held ahead of each act that can be undone. */
    static List<String> slotsAndActs(Setup made) {
        List<String> seen = new ArrayList<>();
        int acts = fresh(made).count(1);
        for (int undone = 0; undone <= acts; undone++) {
            for (int slot = 0; slot < 3; slot++) {
                OneAtATime x = fresh(made);
                for (int i = 0; i < undone; i++) {
                    x.undo();
                }
                seen.add("undone " + undone + ", slot " + slot + ": " + list(x, slot));
            }
        }
        return seen;
    }

    static String out(Setup made) {
        StringBuilder seen = new StringBuilder();
        int many = fresh(made).count(3);
        for (int from = 0; from < many; from += OCTETS_A_LOOK) {
            OneAtATime x = fresh(made);
            for (int i = from; i < Math.min(from + OCTETS_A_LOOK, many); i++) {
                seen.append((char) x.octet(i));
            }
        }
        return seen.toString();
    }

    /** How long the tape is, and what it tells. */
    static String tape(Setup made) {
        OneAtATime x = fresh(made);
        return x.count(2) + ": " + x.told(0) + " " + x.fault(0) + " " + x.fault(1) + " "
            + list(x, 0);
    }

    static String fault(Setup made) {
        OneAtATime x = fresh(made);
        return x.fault(0) + " at " + x.fault(1);
    }

    static List<String> everything(Setup made) {
        List<String> seen = slotsAndActs(made);
        seen.add("out " + out(made));
        seen.add("tape " + tape(made));
        seen.add("fault " + fault(made));
        return seen;
    }

    /** The call answers as told, and later calls show all as it was. */
    static void stays(String name, Setup made, Call call, long want) {
        due(name, call.on(fresh(made)), want);
        List<String> before = everything(made);
        List<String> after = everything(x -> {
            made.make(x);
            call.on(x);
        });
        dueText("what is there behind " + name, String.join("\n", after),
            String.join("\n", before));
    }

    static void stays(String name, Call call, long want) {
        stays(name, Edges::rich, call, want);
    }

    /** A call that is an act makes just one more that can be undone, and undo brings all back. */
    static void isAct(String name, Setup made, Call call, long want) {
        OneAtATime x = fresh(made);
        int acts = x.count(1);
        due(name, call.on(x), want);
        due("acts behind " + name, x.count(1), Math.min(acts + 1, 10));
        if (acts < 10) {
            List<String> before = slotsAndActs(made);
            List<String> after = slotsAndActs(y -> {
                made.make(y);
                call.on(y);
                y.undo();
            });
            dueText("undone " + name, String.join("\n", after), String.join("\n", before));
        }
    }

    /** Slots below 0, above 2, and one without a list: -2, and all stays. 0 and 2 are answered. */
    static void needsList(SlotCall call) {
        for (int slot : new int[] {LEAST, -1, 1, 3, MOST}) {
            stays("slot " + slot, x -> call.on(x, slot), -2);
        }
        for (int slot = 0; slot < 3; slot += 2) {
            if (call.on(fresh(Edges::rich), slot) == -2) {
                fail("slot " + slot + " has a list, but the answer is -2");
            }
        }
    }

    /** A question: it needs a list, and where it is answered all stays as well. */
    static void asksAList(SlotCall call) {
        needsList(call);
        for (int slot = 0; slot < 3; slot += 2) {
            int asked = slot;
            stays("slot " + slot, x -> call.on(x, asked), call.on(fresh(Edges::rich), slot));
        }
    }
}
