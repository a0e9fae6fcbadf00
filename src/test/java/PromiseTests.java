/** Each promise of the document by its number: ordinary inputs, its edges, and wrong inputs. */
public final class PromiseTests {
    private static final String GRAY3 = "bits 3 start 0:01020102;";
    private static final String LADDER3 = "bits 3 start 0:012012;";

    private static int wrong = 0;
    private static int promise = 0;

    private static void due(String call, long got, long want) {
        if (got != want) {
            wrong++;
            System.out.println("promise " + promise + ": " + call + " answered " + got
                + ", due is " + want);
        }
    }

    private static OneAtATime with(String text) {
        OneAtATime x = new OneAtATime();
        TapeWriter.tells(x, 0, text);
        due("fault of " + text, x.fault(0), 0);
        return x;
    }

    private static String steps(OneAtATime x, int slot) {
        StringBuilder steps = new StringBuilder();
        int many = x.look(slot, 4);
        for (int i = 0; i < many; i++) {
            steps.append(x.step(slot, i));
        }
        return steps.toString();
    }

    private static void dueSteps(OneAtATime x, int slot, String want) {
        String got = steps(x, slot);
        if (!got.equals(want)) {
            wrong++;
            System.out.println("promise " + promise + ": steps are " + got + ", due are " + want);
        }
    }

    public static void main(String[] args) {
        promise = 1;
        aNewObject();
        promise = 2;
        feed();
        promise = 3;
        end();
        promise = 4;
        told();
        promise = 5;
        fault();
        promise = 6;
        count();
        promise = 7;
        look();
        promise = 8;
        is();
        promise = 9;
        word();
        promise = 10;
        step();
        promise = 11;
        where();
        promise = 12;
        lacks();
        promise = 13;
        turned();
        promise = 14;
        order();
        promise = 15;
        uneven();
        promise = 16;
        gap();
        promise = 17;
        run();
        promise = 18;
        parts();
        promise = 19;
        level();
        promise = 20;
        same();
        promise = 21;
        shift();
        promise = 22;
        apart();
        promise = 23;
        spread();
        promise = 24;
        climbs();
        promise = 25;
        code();
        promise = 26;
        rank();
        promise = 27;
        ruler();
        promise = 28;
        makes();
        promise = 29;
        finds();
        promise = 30;
        extend();
        promise = 31;
        open();
        promise = 32;
        way();
        promise = 33;
        evenest();
        promise = 34;
        tracks();
        promise = 35;
        product();
        promise = 36;
        twists();
        promise = 37;
        twistable();
        promise = 38;
        detour();
        promise = 39;
        mirror();
        promise = 40;
        starts();
        promise = 41;
        swaps();
        promise = 42;
        reverse();
        promise = 43;
        rolls();
        promise = 44;
        adds();
        promise = 45;
        cuts();
        promise = 46;
        alike();
        promise = 47;
        drops();
        promise = 48;
        undo();
        promise = 49;
        tell();
        promise = 50;
        octet();
        System.out.println(wrong == 0 ? "all promises hold" : wrong + " answers are not as due");
        if (wrong != 0) {
            System.exit(1);
        }
    }

    private static void aNewObject() {
        OneAtATime x = new OneAtATime();
        due("slots", x.count(0), 0);
        due("acts", x.count(1), 0);
        due("tape", x.count(2), 0);
        due("out", x.count(3), 0);
        for (int slot = -1; slot <= 3; slot++) {
            due("look", x.look(slot, 0), -2);
        }
        due("NONE", OneAtATime.NONE, -1);
    }

    private static void feed() {
        OneAtATime x = new OneAtATime();
        for (int i = 1; i <= 20; i++) {
            int blanks = 0x20202020;
            due("feed", x.feed(blanks, blanks, blanks, blanks, blanks), 20 * i);
        }
        due("feed beyond 400", x.feed(0, 0, 0, 0, 0), -1);
        due("tape", x.count(2), 400);
        due("told of blanks", x.told(0), -4);
        due("place of the end", x.fault(1), 400);
        x.feed(-1, 0, 0, 0, 0);
        x.end(1);
        due("a byte of 255 is a token that is none", x.told(0), -4);
        due("fault", x.fault(0), 1);
        due("place", x.fault(1), 0);
        due("the highest byte first",
            x.feed(0x62697473, 0x31737461, 0x7274313A, 0x3B202020, 0x0A200A20), 20);
        due("told", x.told(1), 0);
        due("start", x.look(1, 3), 1);
    }

    private static void end() {
        OneAtATime x = new OneAtATime();
        due("end", x.end(0), 0);
        due("end", x.end(1), -1);
        due("end", x.end(-1), -1);
        x.feed(1, 2, 3, 4, 5);
        due("end", x.end(21), -1);
        due("end", x.end(Integer.MIN_VALUE), -1);
        due("tape", x.count(2), 20);
        due("end", x.end(20), 20);
        due("end", x.end(7), 7);
        due("end", x.end(8), -1);
        due("tape", x.count(2), 7);
        due("feed behind", x.feed(1, 2, 3, 4, 5), 27);
    }

    private static void told() {
        OneAtATime x = new OneAtATime();
        TapeWriter.writes(x, "bits 3 start 5 : 0102 ;");
        due("told", x.told(-1), -2);
        due("told", x.told(3), -2);
        due("the tape stays", x.count(2), 23);
        due("told", x.told(2), 4);
        due("tape", x.count(2), 0);
        due("slots", x.count(0), 4);
        due("start", x.look(2, 3), 5);
        due("without levels", x.look(2, 1), 0);
        due("without levels", x.look(2, 2), 3);
        dueSteps(x, 2, "0102");
        due("levels", TapeWriter.tells(x, 1, "bits8levels2to007start255:76543210;"), 8);
        due("A", x.look(1, 1), 2);
        due("B", x.look(1, 2), 7);
        due("a fault", TapeWriter.tells(x, 1, "bits 8 start 256:;"), -4);
        due("tape", x.count(2), 0);
        due("all else stays", x.look(1, 3), 255);
        due("acts", x.count(1), 2);
        due("the same again", TapeWriter.tells(x, 2, "bits 3 levels 0 to 3\nstart 5:0102;"), 4);
        due("is no act", x.count(1), 2);
        due("other levels", TapeWriter.tells(x, 2, "bits 3 levels 0 to 2 start 5:0102;"), 4);
        due("are an act", x.count(1), 3);
        due("another step", TapeWriter.tells(x, 2, "bits 3 levels 0 to 2 start 5:1102;"), 4);
        due("is an act", x.count(1), 4);
        x.drops(2);
        due("where it was", TapeWriter.tells(x, 2, "bits 3 levels 0 to 2 start 5:1102;"), 4);
        due("is an act", x.count(1), 6);
        due("slots", x.count(0), 6);
        String most = "bits 1 start 0:" + "0".repeat(256) + ";";
        due("256 steps", TapeWriter.tells(x, 0, most), 256);
    }

    private static void dueFault(String text, int number, int place) {
        OneAtATime x = new OneAtATime();
        due("told " + text, TapeWriter.tells(x, 0, text), number == 0 ? x.look(0, 4) : -4);
        due("fault of " + text, x.fault(0), number);
        due("place of " + text, x.fault(1), place);
    }

    private static void fault() {
        OneAtATime x = new OneAtATime();
        due("fault ahead of any", x.fault(0), 0);
        due("fault ahead of any", x.fault(1), -1);
        due("fault", x.fault(2), -1);
        due("fault", x.fault(-1), -1);
        TapeWriter.tells(x, 0, "bits 0");
        x.told(7);
        due("a refused told tells nothing", x.fault(0), 2);
        due("fault", x.fault(1), 5);
        TapeWriter.tells(x, 0, GRAY3);
        due("without", x.fault(0), 0);
        due("without", x.fault(1), -1);
        dueFault("", 1, 0);
        dueFault("  \n ", 1, 4);
        dueFault("Bits 3 start 0:;", 1, 0);
        dueFault("bitsy 3 start 0:;", 1, 0);
        dueFault("bitsz 3 start 0:;", 1, 0);
        dueFault("bitsa 3 start 0:;", 1, 0);
        dueFault("bits{3 start 0:;", 1, 4);
        dueFault("kits 3 start 0:;", 1, 0);
        dueFault("bit 3 start 0:;", 1, 0);
        dueFault("bits 3 stars 0:;", 1, 7);
        dueFault("bits three", 1, 5);
        dueFault("bits 3 start 0:; ", 0, -1);
        dueFault("bits 3 start 0:; ;", 1, 17);
        dueFault("bits 3 start 0;", 1, 14);
        dueFault("bits 3 start 0:\t;", 1, 15);
        dueFault("bits 3 level 0 to 3 start 0:;", 1, 7);
        dueFault("bits 3 levels 0 - 3 start 0:;", 1, 16);
        dueFault("bits 3 levels 0 to 3 levels 0 to 3 start 0:;", 1, 21);
        dueFault("bits 3 start 0:01  ", 1, 19);
        dueFault("bits 3 start 0:01 2;", 1, 18);
        dueFault("bits 9 start 0:;", 2, 5);
        dueFault("bits 0 start 0:;", 2, 5);
        dueFault("bits 0000000000008 start 0:;", 0, -1);
        dueFault("bits 4294967297 start 0:;", 2, 5);
        dueFault("bits 3 levels 4 to 4 start 0:;", 2, 14);
        dueFault("bits 3 levels 2 to 1 start 0:;", 2, 19);
        dueFault("bits 3 levels 2 to 4 start 0:;", 2, 19);
        dueFault("bits 3 levels 2 to 2 start 0:;", 0, -1);
        dueFault("bits 3 start 8:;", 2, 13);
        dueFault("bits 3 start 7:;", 0, -1);
        dueFault("bits 3 start 7:0129", 3, 18);
        dueFault("bits 3 start 7:3#", 3, 15);
        dueFault("bits 9 start # 7", 2, 5);
        String full = "bits 1 start 0:" + "0".repeat(256);
        dueFault(full + ";", 0, -1);
        dueFault(full + "0;", 4, 271);
        dueFault(full + "1;", 3, 271);
        dueFault(full + "01;", 4, 271);
        dueFault(full, 1, 271);
    }

    private static void count() {
        OneAtATime x = with(GRAY3);
        TapeWriter.tells(x, 2, LADDER3);
        due("slots", x.count(0), 5);
        due("acts", x.count(1), 2);
        x.feed(0, 0, 0, 0, 0);
        due("tape", x.count(2), 20);
        x.tell(0, 1);
        due("out", x.count(3), 32);
        due("others", x.count(4), -1);
        due("others", x.count(-1), -1);
        for (int i = 0; i < 20; i++) {
            x.adds(2, 0);
        }
        due("acts, ten at most", x.count(1), 10);
    }

    private static void look() {
        OneAtATime x = with("bits 4 levels 1 to 2 start 3:0011;");
        int[] want = {4, 1, 2, 3, 4, 4, 3, 10};
        for (int what = 0; what < 8; what++) {
            due("look " + what, x.look(0, what), want[what]);
        }
        due("look", x.look(0, -1), -2);
        due("look", x.look(0, 8), -2);
        due("look", x.look(1, 0), -2);
        due("look", x.look(3, 0), -2);
        x.adds(0, 3);
        due("shown, no loop", x.look(0, 5), 6);
        due("unlike", x.look(0, 6), 4);
        OneAtATime most = with("bits 8 start 0:" + "0".repeat(255) + "1;");
        due("shown", most.look(0, 5), 257);
        due("unlike", most.look(0, 6), 3);
        due("scope", most.look(0, 7), 256);
    }

    private static void dueIs(String text, int loop, int clean, int full, int monotone, int snake,
            int opposite) {
        OneAtATime x = with(text);
        int[] want = {loop, clean, full, monotone, snake, opposite};
        for (int what = 0; what < 6; what++) {
            due("is " + what + " of " + text, x.is(0, what), want[what]);
        }
    }

    private static void is() {
        dueIs(GRAY3, 1, 1, 1, 0, 0, 0);
        dueIs(LADDER3, 1, 1, 0, 0, 1, 1);
        dueIs("bits 3 start 0:0102010;", 0, 1, 1, 1, 0, 0);
        dueIs("bits 3 start 0:;", 0, 1, 0, 1, 1, 0);
        dueIs("bits 1 start 0:00;", 1, 1, 1, 1, 1, 1);
        dueIs("bits 2 start 0:0101;", 1, 1, 1, 1, 1, 1);
        dueIs("bits 2 start 0:00;", 1, 1, 0, 1, 1, 0);
        dueIs("bits 2 start 0:000;", 0, 0, 0, 1, 0, 0);
        dueIs("bits 3 levels 1 to 2 start 1:102102;", 1, 1, 1, 1, 1, 1);
        dueIs("bits 3 levels 1 to 1 start 1:;", 0, 1, 0, 1, 1, 0);
        dueIs("bits 3 levels 3 to 3 start 7:;", 0, 1, 1, 1, 1, 0);
        dueIs("bits 3 levels 2 to 2 start 1:;", 0, 1, 0, 1, 1, 0);
        dueIs("bits 3 start 0:010;", 0, 1, 0, 1, 0, 0);
        dueIs("bits 3 start 0:101;", 0, 1, 0, 1, 0, 0);
        dueIs("bits 3 start 4:010;", 0, 1, 0, 1, 0, 0);
        dueIs("bits 2 levels 1 to 2 start 1:101;", 0, 1, 0, 1, 0, 0);
        dueIs("bits 3 start 7:012;", 0, 1, 0, 0, 1, 0);
        dueIs("bits 3 start 0:012012012012;", 1, 0, 0, 0, 0, 0);
        dueIs("bits 3 start 0:012012012012012012;", 1, 0, 0, 0, 0, 1);
        due("one track", with(LADDER3).is(0, 6), 1);
        due("one track", with(GRAY3).is(0, 6), 0);
        due("one track, no loop", with("bits 3 start 0:01;").is(0, 6), 0);
        due("one track of one bit", with("bits 1 start 0:00;").is(0, 6), 1);
        due("one track, a bit never turned", with("bits 2 start 0:00;").is(0, 6), 0);
        OneAtATime x = with(GRAY3);
        due("is", x.is(0, 7), -2);
        due("is", x.is(0, -1), -2);
        due("is", x.is(1, 0), -2);
    }

    private static void word() {
        OneAtATime x = with(GRAY3);
        int[] want = {0, 1, 3, 2, 6, 7, 5, 4, 0, -1};
        for (int place = 0; place < want.length; place++) {
            due("word " + place, x.word(0, place), want[place]);
        }
        due("word", x.word(0, Integer.MAX_VALUE), -1);
        due("word", x.word(0, -1), -2);
        due("word", x.word(1, 0), -2);
        due("word", x.word(-1, 0), -2);
    }

    private static void step() {
        OneAtATime x = with(GRAY3);
        int[] want = {0, 1, 0, 2, 0, 1, 0, 2, -1};
        for (int i = 0; i < want.length; i++) {
            due("step " + i, x.step(0, i), want[i]);
        }
        due("step", x.step(0, -1), -2);
        due("step", x.step(1, 0), -2);
    }

    private static void where() {
        OneAtATime x = with("bits 2 start 0:00110;");
        due("where", x.where(0, 0, 0), 0);
        due("where", x.where(0, 0, 1), 2);
        due("where", x.where(0, 0, 2), 4);
        due("where", x.where(0, 0, 3), -1);
        due("where", x.where(0, 3, 0), -1);
        due("where", x.where(0, 1, 1), 5);
        due("where", x.where(0, 4, 0), -2);
        due("where", x.where(0, -1, 0), -2);
        due("where", x.where(0, 0, -1), -2);
        due("where", x.where(2, 0, 0), -2);
        due("the last place of a loop is not shown", with(GRAY3).where(0, 0, 1), -1);
    }

    private static void lacks() {
        OneAtATime x = with("bits 3 levels 1 to 2 start 0:0;");
        int[] want = {2, 3, 4, 5, 6, -1};
        for (int k = 0; k < want.length; k++) {
            due("lacks " + k, x.lacks(0, k), want[k]);
        }
        due("lacks", x.lacks(0, -1), -2);
        due("lacks", with("bits 2 start 3:;").lacks(0, 0), 0);
        due("lacks", x.lacks(1, 0), -2);
    }

    private static void turned() {
        OneAtATime x = with(GRAY3);
        due("turned", x.turned(0, 0), 4);
        due("turned", x.turned(0, 1), 2);
        due("turned", x.turned(0, 2), 2);
        due("turned", x.turned(0, 3), -2);
        due("turned", x.turned(0, -1), -2);
        due("turned", x.turned(1, 0), -2);
    }

    private static void order() {
        OneAtATime x = with("bits 5 start 0:4411430;");
        int[] want = {4, 1, 0, 3, 2, -2};
        for (int k = 0; k < want.length; k++) {
            due("order " + k, x.order(0, k), want[k]);
        }
        due("order", x.order(0, -1), -2);
        due("order", x.order(1, 0), -2);
    }

    private static void uneven() {
        due("uneven", with(GRAY3).uneven(0), 2);
        due("uneven", with(LADDER3).uneven(0), 0);
        due("uneven", with("bits 1 start 0:000;").uneven(0), 0);
        due("uneven", with("bits 2 start 0:000;").uneven(0), 3);
        due("uneven", with(GRAY3).uneven(1), -2);
        due("uneven", with(GRAY3).uneven(-1), -2);
    }

    private static void gap() {
        OneAtATime x = with("bits 4 start 0:0123120;");
        due("gap", x.gap(0, -1), 3);
        due("gap", x.gap(0, 0), 6);
        due("gap", x.gap(0, 1), 3);
        due("gap", x.gap(0, 3), -1);
        due("gap", x.gap(0, 4), -2);
        due("gap", x.gap(0, -2), -2);
        due("gap", x.gap(1, -1), -2);
        x.adds(0, 3);
        due("going round", x.gap(0, 0), 2);
        due("going round", x.gap(0, -1), 2);
        due("going round", x.gap(0, 3), 4);
        due("none", with("bits 2 start 0:01;").gap(0, -1), -1);
        due("a bit never turned in a loop", with("bits 2 start 0:00;").gap(0, 1), -1);
    }

    private static void run() {
        OneAtATime x = with("bits 3 start 1:10221200;");
        // words 1 3 2 6 2 0 4 5 4: no loop
        due("run", x.run(0, 0, 1), 2);
        due("run", x.run(0, 0, 0), 5);
        due("run", x.run(0, 2, 0), 3);
        due("run", x.run(0, 1, 1), 4);
        due("run", x.run(0, 0, 2), -2);
        due("run", x.run(0, 0, -1), -2);
        due("run", x.run(0, 3, 0), -2);
        due("run", x.run(1, 0, 0), -2);
        OneAtATime loop = with("bits 3 start 0:001122;");
        due("over the seam", with("bits 2 start 0:0011;").run(0, 0, 0), 3);
        due("all", with("bits 2 start 0:00;").run(0, 1, 0), 2);
        due("none", with("bits 2 start 0:00;").run(0, 1, 1), 0);
        due("of a loop", loop.run(0, 2, 0), 5);
    }

    private static void parts() {
        OneAtATime x = with("bits 3 start 1:10221200;");
        due("parts", x.parts(0, 0, 1), 2);
        due("parts", x.parts(0, 0, 0), 2);
        due("parts", x.parts(0, 2, 1), 2);
        due("parts", x.parts(0, 3, 1), -2);
        due("parts", x.parts(0, 0, 2), -2);
        due("parts", x.parts(1, 0, 0), -2);
        due("over the seam", with("bits 2 start 0:0011;").parts(0, 0, 0), 1);
        due("not over it", with("bits 2 start 0:001;").parts(0, 0, 0), 2);
        due("all round", with("bits 2 start 0:00;").parts(0, 1, 0), 1);
        due("none", with("bits 2 start 0:00;").parts(0, 1, 1), 0);
        due("both ends", with(GRAY3).parts(0, 0, 0), 2);
        due("one end alone", with("bits 3 start 1:10201020;").parts(0, 0, 1), 2);
        due("the other alone", with("bits 3 start 1:10201020;").parts(0, 0, 0), 2);
        due("one place", with("bits 2 start 0:;").parts(0, 1, 0), 1);
    }

    private static void level() {
        OneAtATime x = with(GRAY3);
        due("level", x.level(0, 0, 0), 0);
        due("level, the last place not shown", x.level(0, 0, 1), 0);
        due("level", x.level(0, 1, 0), 1);
        due("level", x.level(0, 1, 1), 7);
        due("level", x.level(0, 2, 1), 6);
        due("level", x.level(0, 3, 1), 5);
        due("level", x.level(0, 4, 0), -2);
        due("level", x.level(0, -1, 0), -2);
        due("level", x.level(0, 0, 2), -2);
        due("level", x.level(1, 0, 0), -2);
        due("none such", with("bits 3 start 0:0;").level(0, 2, 0), -1);
    }

    private static void same() {
        OneAtATime x = with(GRAY3);
        TapeWriter.tells(x, 1, "bits 4 start 0:0110;");
        due("same", x.same(0, 1), 3);
        due("same", x.same(1, 0), 3);
        due("same", x.same(0, 0), 9);
        due("same", x.same(0, 2), -2);
        due("same", x.same(2, 0), -2);
        due("same", x.same(0, 3), -2);
    }

    private static void shift() {
        OneAtATime x = with(LADDER3);
        due("shift", x.shift(0, 0), 0);
        due("shift", x.shift(0, 1), 5);
        due("shift", x.shift(0, 2), 4);
        due("shift", x.shift(0, 3), -2);
        due("shift", x.shift(0, -1), -2);
        due("shift", x.shift(1, 0), -2);
        x.makes(0, 2);
        due("the fewest", x.shift(0, 1), 5);
        x.adds(0, 0);
        due("no loop", x.shift(0, 0), -1);
        due("by none", with(GRAY3).shift(0, 2), -1);
    }

    private static void apart() {
        OneAtATime x = with(LADDER3);
        due("apart", x.apart(0, 0, 3), 3);
        due("apart", x.apart(0, 6, 2), 2);
        due("apart", x.apart(0, 4, 4), 0);
        due("apart", x.apart(0, 7, 0), -2);
        due("apart", x.apart(0, 0, 7), -2);
        due("apart", x.apart(0, -1, 0), -2);
        due("apart", x.apart(0, 0, -1), -2);
        due("apart", x.apart(1, 0, 0), -2);
    }

    private static void spread() {
        due("spread", with(LADDER3).spread(0), 3);
        due("spread", with(GRAY3).spread(0), 1);
        due("one word", with("bits 5 start 9:;").spread(0), 5);
        due("shown twice", with("bits 3 start 0:000;").spread(0), -1);
        due("no places so far apart", with("bits 8 start 0:0120;").spread(0), 8);
        due("two", with("bits 3 start 0:0120;").spread(0), 2);
        due("one", with("bits 3 start 0:010;").spread(0), 1);
        due("eight", with("bits 8 start 0:0123456701234567;").spread(0), 8);
        due("a loop the nearer way", with("bits 4 start 0:01230123;").spread(0), 4);
        due("no list", with(GRAY3).spread(1), -2);
        due("no slot", with(GRAY3).spread(3), -2);
    }

    private static void climbs() {
        OneAtATime x = with(GRAY3);
        int[] up = {1, 2, 1};
        int[] back = {1, 2, 1};
        for (int l = 0; l < 3; l++) {
            due("up", x.climbs(0, l, 1), up[l]);
            due("back", x.climbs(0, l, 0), back[l]);
        }
        x.cuts(0, 1);
        due("back", x.climbs(0, 0, 0), 0);
        due("climbs", x.climbs(0, 3, 1), -2);
        due("climbs", x.climbs(0, -1, 1), -2);
        due("climbs", x.climbs(0, 0, 2), -2);
        due("climbs", x.climbs(1, 0, 0), -2);
    }

    private static void code() {
        OneAtATime x = new OneAtATime();
        int[] want = {0, 1, 3, 2, 6, 7, 5, 4, 12};
        for (int i = 0; i < want.length; i++) {
            due("code " + i, x.code(i), want[i]);
        }
        due("code", x.code(Integer.MAX_VALUE), 1 << 30);
        due("code", x.code(-1), -2);
        due("code", x.code(Integer.MIN_VALUE), -2);
    }

    private static void rank() {
        OneAtATime x = new OneAtATime();
        for (int i = 0; i < 2000; i++) {
            OneAtATime one = new OneAtATime();
            due("rank", one.rank(one.code(i)), i);
            due("rank", one.rank(one.code(Integer.MAX_VALUE - i)), Integer.MAX_VALUE - i);
        }
        due("rank", x.rank(1 << 30), Integer.MAX_VALUE);
        due("rank", x.rank(-1), -2);
        due("rank", x.rank(Integer.MIN_VALUE), -2);
    }

    private static void ruler() {
        OneAtATime x = new OneAtATime();
        int[] want = {-2, 0, 1, 0, 2, 0, 1, 0, 3};
        for (int i = 0; i < want.length; i++) {
            due("ruler " + i, x.ruler(i), want[i]);
        }
        due("ruler", x.ruler(1 << 30), 30);
        due("ruler", x.ruler(Integer.MAX_VALUE), 0);
        due("ruler", x.ruler(Integer.MIN_VALUE), -2);
    }

    private static void makes() {
        OneAtATime x = with("bits 3 levels 1 to 2 start 5:0;");
        due("reflected", x.makes(0, 0), 8);
        dueSteps(x, 0, "01020102");
        due("its start stays", x.look(0, 3), 5);
        due("its levels stay", x.look(0, 1), 1);
        due("ladder", x.makes(0, 1), 6);
        dueSteps(x, 0, "012012");
        due("twice", x.makes(0, 2), 12);
        dueSteps(x, 0, "012012012012");
        due("makes", x.makes(0, 3), -2);
        due("makes", x.makes(0, -1), -2);
        due("makes", x.makes(1, 0), -2);
        due("makes", x.makes(3, 0), -2);
        OneAtATime one = with("bits 1 start 1:;");
        due("reflected", one.makes(0, 0), 2);
        dueSteps(one, 0, "00");
        due("acts", one.count(1), 2);
        due("the same again", one.makes(0, 1), 2);
        due("is no act", one.count(1), 2);
        OneAtATime most = with("bits 8 start 0:;");
        due("reflected", most.makes(0, 0), 256);
        due("full", most.is(0, 2), 1);
        due("loop", most.is(0, 0), 1);
        due("more than 256", most.makes(0, 2), -2);
        most.cuts(0, 128);
        due("just 256", most.makes(0, 2), 256);
    }

    private static void finds() {
        OneAtATime x = with("bits 2 start 0:;");
        due("no law", x.finds(0, 0, 2), -3);
        due("it stays", x.look(0, 4), 0);
        due("no law", x.finds(0, 0, 3), 3);
        dueSteps(x, 0, "010");
        due("the same again is no act", x.finds(0, 2, 3), 3);
        due("acts", x.count(1), 2);
        due("loop", x.finds(0, 1, 3), 4);
        due("opposite", x.finds(0, 3, 3), 4);
        OneAtATime three = with("bits 3 start 0:;");
        due("no opposite one", three.finds(0, 3, 111), -1);
        due("too long", three.finds(0, 3, 110), -3);
        due("monotone", three.finds(0, 2, 7), 7);
        due("is", three.is(0, 3), 1);
        OneAtATime four = with("bits 4 start 0:;");
        due("monotone", four.finds(0, 2, 50000), 15);
        due("is monotone", four.is(0, 3), 1);
        due("is full", four.is(0, 2), 1);
        due("opposite", four.finds(0, 3, 50000), 16);
        due("is opposite", four.is(0, 5), 1);
        due("is full", four.is(0, 2), 1);
        OneAtATime one = with("bits 4 levels 0 to 0 start 0:00;");
        due("a scope of one word", one.finds(0, 1, 1), -1);
        due("a scope of one word", one.finds(0, 3, 1), -1);
        due("a scope of one word", one.finds(0, 2, 1), 0);
        due("the steps are gone", one.look(0, 4), 0);
        due("a scope of one word", one.finds(0, 0, 1), 0);
        one.starts(0, 1);
        due("start not of the scope", one.finds(0, 0, 1), -1);
        due("one level", with("bits 3 levels 1 to 1 start 1:;").finds(0, 0, 1), -1);
        due("eight bits", with("bits 8 start 77:;").finds(0, 0, 50000), 255);
        due("eight bits", with("bits 8 start 77:;").finds(0, 1, 255), 256);
        due("finds", x.finds(0, 4, 1), -2);
        due("finds", x.finds(0, -1, 1), -2);
        due("finds", x.finds(0, 0, 0), -2);
        due("finds", x.finds(0, 0, 50001), -2);
        due("finds", x.finds(1, 0, 1), -2);
    }

    private static void extend() {
        OneAtATime x = with("bits 1 start 1:00;");
        due("extend", x.extend(0, 0), 3);
        dueSteps(x, 0, "01020102");
        due("start", x.look(0, 3), 1);
        OneAtATime y = with("bits 2 start 0:0101;");
        due("one cut", y.extend(0, 1), -2);
        due("a cut behind the last", y.extend(0, 9), -2);
        due("negative", y.extend(0, -1), -2);
        due("two cuts", y.extend(0, 5), 4);
        // parts 0 | 1 2 | 3: the second with its bits the other way round
        dueSteps(y, 0, "23" + "0" + "13121" + "0" + "23" + "2" + "010" + "3");
        due("A", y.look(0, 1), 0);
        due("B", y.look(0, 2), 4);
        due("full", y.is(0, 2), 1);
        due("loop", y.is(0, 0), 1);
        due("extend again", y.extend(0, (1L << 13) | 1), 6);
        due("full", y.is(0, 2), 1);
        due("extend again", y.extend(0, (1L << 62) | (1L << 4)), 8);
        due("full", y.is(0, 2), 1);
        due("steps", y.look(0, 4), 256);
        due("above 6, -2 ahead", y.extend(0, 1L << 63), -2);
        due("above 6", y.extend(0, (1L << 63) | 1), -5);
        due("no loop", with("bits 2 start 0:010;").extend(0, 0), -6);
        due("not full", with(LADDER3).extend(0, 0), -6);
        OneAtATime long65 = with("bits 6 start 0:" + "0".repeat(65) + ";");
        due("a cut behind place 63", long65.extend(0, (1L << 63) | 1), -6);
        long65.cuts(0, 1);
        due("no cut behind the last", long65.extend(0, (1L << 63) | 1), -2);
        due("levels", with("bits 2 levels 1 to 2 start 0:0101;").extend(0, 0), -6);
        due("above 6 ahead of no loop", with("bits 7 start 0:;").extend(0, 0), -5);
        due("no list", y.extend(1, 0), -2);
    }

    private static void open() {
        due("open", with("bits 3 start 0:01;").open(0), 5);
        due("open", with("bits 3 levels 0 to 2 start 0:01;").open(0), 1);
        due("open", with("bits 3 start 0:;").open(0), 7);
        due("open", with(GRAY3).open(0), 0);
        due("of a loop", with("bits 3 start 0:00;").open(0), 6);
        due("no list", with(GRAY3).open(1), -2);
    }

    private static void way() {
        OneAtATime x = with("bits 3 start 0:012;");
        // shown: 0 1 3 7
        due("way", x.way(0, 0, 0), 0);
        due("way", x.way(0, 0, 1), 1);
        due("way", x.way(0, 0, 7), 3);
        due("way", x.way(0, 1, 2), 4);
        due("way", x.way(0, 2, 5), 3);
        OneAtATime levels = with("bits 3 levels 1 to 1 start 0:0;");
        due("these two aside", levels.way(0, 0, 6), 2);
        due("there is none", levels.way(0, 0, 7), -1);
        due("way", x.way(0, 8, 0), -2);
        due("way", x.way(0, 0, 8), -2);
        due("way", x.way(0, -1, 0), -2);
        due("way", x.way(0, 0, -1), -2);
        due("way", x.way(1, 0, 0), -2);
    }

    private static void evenest() {
        OneAtATime x = with(GRAY3);
        due("evenest", x.evenest(0, 0), 4);
        due("evenest", x.evenest(0, 1), 85);
        due("evenest", x.evenest(0, 2), -2);
        due("evenest", x.evenest(0, -1), -2);
        due("evenest", x.evenest(1, 0), -2);
        x.extend(0, 85);
        due("uneven is so then", x.uneven(0), 4);
        due("more than 16", x.evenest(0, 0), -5);
        OneAtATime small = with("bits 1 start 0:00;");
        due("evenest", small.evenest(0, 0), 2);
        due("evenest", small.evenest(0, 1), 0);
        due("not full", with(LADDER3).evenest(0, 0), -6);
        due("no loop", with("bits 2 start 0:010;").evenest(0, 0), -6);
        due("levels", with("bits 2 levels 0 to 1 start 0:0101;").evenest(0, 0), -6);
        OneAtATime line = with("bits 2 start 0:" + "0".repeat(17) + ";");
        due("17 steps ahead of no loop", line.evenest(0, 0), -5);
        dueEvenest("bits 4 start 0:0102010301020103;");
        OneAtATime other = with(GRAY3);
        for (int place = 0; place < 8; place++) {
            other.rolls(0, 1);
            dueEvenest("bits 3 start 0:" + steps(other, 0) + ";");
            other.swaps(0, place % 3, 2);
            dueEvenest("bits 3 start 0:" + steps(other, 0) + ";");
        }
        for (int law = 1; law <= 3; law += 2) {
            OneAtATime found = with("bits 4 start 0:;");
            found.finds(0, law, 50000);
            dueEvenest("bits 4 start 0:" + steps(found, 0) + ";");
            found.reverse(0);
            dueEvenest("bits 4 start 0:" + steps(found, 0) + ";");
        }
    }

    /** All cuts are tried, a hundred with an object, which is good for 512 calls alone. */
    private static void dueEvenest(String text) {
        OneAtATime x = with(text);
        long least = x.evenest(0, 0);
        long cuts = x.evenest(0, 1);
        due("by these cuts", unevenBy(x, cuts), least);
        long all = 1L << x.look(0, 4) - 1;
        for (long some = 0; some < all; some++) {
            if (some % 100 == 0) {
                x = with(text);
            }
            if (Long.bitCount(some) % 2 == 0) {
                int uneven = unevenBy(x, some);
                if (uneven < least || uneven == least && some < cuts) {
                    due("cuts " + some, uneven, least + 1);
                }
            }
        }
    }

    private static int unevenBy(OneAtATime x, long cuts) {
        x.extend(0, cuts);
        int uneven = x.uneven(0);
        x.undo();
        return uneven;
    }

    private static void tracks() {
        OneAtATime x = with("bits 5 start 1:;");
        due("tracks", x.tracks(0, 6, 2, 50000), 30);
        due("one track", x.is(0, 6), 1);
        due("loop", x.is(0, 0), 1);
        due("clean", x.is(0, 1), 1);
        due("start rolled by r", x.word(0, 6), 4);
        for (int i = 0; i < 24; i++) {
            due("told again", x.step(0, i + 6), (x.step(0, i) + 2) % 5);
        }
        due("oddly many", x.tracks(0, 1, 1, 1), -1);
        due("it stays", x.look(0, 4), 30);
        OneAtATime three = with("bits 3 start 1:;");
        due("too long", three.tracks(0, 2, 1, 1), -3);
        due("just enough", three.tracks(0, 2, 1, 2), 6);
        dueSteps(three, 0, "102102");
        due("no word comes back", three.tracks(0, 4, 1, 50000), -1);
        due("a start that is itself rolled", with("bits 4 start 5:;").tracks(0, 2, 1, 9), -1);
        due("above 256", three.tracks(0, 86, 1, 1), -5);
        due("not above 256", three.tracks(0, 85, 1, 1000), -1);
        due("above 256", three.tracks(0, Integer.MAX_VALUE, 1, 1), -5);
        due("one bit", with("bits 1 start 1:;").tracks(0, 1, 1, 1), -2);
        due("two bits", with("bits 2 start 1:;").tracks(0, 2, 1, 1), -1);
        due("just 256", with("bits 8 start 0:;").tracks(0, 32, 1, 1), -1);
        OneAtATime four = with("bits 4 start 6:;");
        due("the least bit first", four.tracks(0, 2, 3, 50), 8);
        dueSteps(four, 0, "02312013");
        due("p", three.tracks(0, 0, 1, 1), -2);
        due("r", three.tracks(0, 2, 0, 1), -2);
        due("r", three.tracks(0, 2, 3, 1), -2);
        due("r", three.tracks(0, 2, 4, 1), -2);
        due("r", three.tracks(0, 2, -1, 1), -2);
        due("tries", three.tracks(0, 2, 1, 0), -2);
        due("tries", three.tracks(0, 2, 1, 50001), -2);
        due("-2 ahead of -5", three.tracks(0, 86, 3, 1), -2);
        due("no list", three.tracks(1, 2, 1, 1), -2);
        OneAtATime six = with("bits 6 start 1:;");
        due("a divisor in common", six.tracks(0, 2, 2, 9), -2);
        due("a divisor in common", six.tracks(0, 2, 3, 9), -2);
        due("none in common", six.tracks(0, 2, 5, 9), 12);
    }

    private static void product() {
        OneAtATime x = with("bits 2 levels 0 to 1 start 1:01;");
        TapeWriter.tells(x, 1, "bits 3 start 4:20;");
        due("product", x.product(0, 1, 2), 8);
        dueSteps(x, 2, "01" + "4" + "10" + "2" + "01");
        due("N", x.look(2, 0), 5);
        due("A", x.look(2, 1), 0);
        due("B", x.look(2, 2), 5);
        due("start", x.look(2, 3), 1 + (4 << 2));
        due("into one of them", x.product(0, 1, 1), 8);
        due("acts", x.count(1), 4);
        due("of the product", x.product(0, 2, 2), 26);
        due("N above 8", x.product(1, 1, 0), -5);
        due("no list", with(GRAY3).product(0, 1, 2), -2);
        due("no slot", x.product(0, 0, 3), -2);
        due("no slot", x.product(-1, 0, 0), -2);
        OneAtATime big = with("bits 4 start 0:" + "0".repeat(15) + ";");
        TapeWriter.tells(big, 1, "bits 4 start 0:" + "1".repeat(16) + ";");
        due("15 and 15", big.product(0, 0, 2), 255);
        due("15 and 16", big.product(0, 1, 2), -5);
        TapeWriter.tells(big, 1, "bits 4 start 1:" + "1".repeat(256) + ";");
        TapeWriter.tells(big, 2, "bits 4 start 3:;");
        due("just 256", big.product(1, 2, 2), 256);
        TapeWriter.tells(big, 1, "bits 4 start 3:;");
        due("an empty one", big.product(1, 0, 2), 15);
        dueSteps(big, 2, "4".repeat(15));
        due("an empty other", big.product(0, 1, 2), 15);
        int acts = big.count(1);
        due("the same again", big.product(0, 1, 2), 15);
        due("is no act", big.count(1), acts);
    }

    private static void twists() {
        OneAtATime x = with(GRAY3);
        due("twists", x.twists(0, 0, 7), 8);
        dueSteps(x, 0, "20102010");
        x.undo();
        due("one word alone", x.twists(0, 2, 3), 8);
        due("is no act", x.count(1), 1);
        due("not one bit unlike", x.twists(0, 1, 6), -6);
        due("one of them alone", x.twists(0, 0, 3), -6);
        due("j", x.twists(0, 0, 8), -2);
        due("i", x.twists(0, 3, 3), -2);
        due("i", x.twists(0, 4, 3), -2);
        due("i", x.twists(0, -1, 3), -2);
        due("no list", x.twists(1, 0, 1), -2);
    }

    private static void twistable() {
        due("twistable", with(GRAY3).twistable(0), 1);
        due("twistable", with("bits 3 start 0:0102010;").twistable(0), 0);
        due("twistable", with("bits 2 start 0:0101;").twistable(0), 1);
        due("twistable", with("bits 1 start 0:0000;").twistable(0), 1);
        due("twistable", with("bits 1 start 0:;").twistable(0), 0);
        due("no list", with(GRAY3).twistable(1), -2);
    }

    private static void detour() {
        OneAtATime x = with("bits 3 start 0:01;");
        due("detour", x.detour(0, 1, 2), 4);
        dueSteps(x, 0, "0212");
        due("its own bit", x.detour(0, 0, 0), 6);
        dueSteps(x, 0, "000212");
        due("i", x.detour(0, 6, 0), -2);
        due("i", x.detour(0, -1, 0), -2);
        due("bit", x.detour(0, 0, 3), -2);
        due("bit", x.detour(0, 0, -1), -2);
        due("no list", x.detour(1, 0, 0), -2);
        OneAtATime most = with("bits 1 start 0:" + "0".repeat(254) + ";");
        due("256", most.detour(0, 253, 0), 256);
        due("more than 256", most.detour(0, 0, 0), -5);
        due("-2 ahead", most.detour(0, 256, 0), -2);
        most.cuts(0, 1);
        due("257", most.detour(0, 0, 0), -5);
    }

    private static void mirror() {
        OneAtATime x = with("bits 4 start 3:0123;");
        due("mirror", x.mirror(0), 12);
        dueSteps(x, 0, "3210");
        due("acts", x.count(1), 2);
        due("mirror", x.mirror(0), 3);
        OneAtATime same = with("bits 3 start 5:111;");
        due("mirror", same.mirror(0), 5);
        due("not otherwise", same.count(1), 1);
        due("no list", x.mirror(1), -2);
    }

    private static void starts() {
        OneAtATime x = with("bits 3 start 5:01;");
        due("starts", x.starts(0, 2), 5);
        due("word", x.word(0, 2), 1);
        due("acts", x.count(1), 2);
        due("starts", x.starts(0, 2), 2);
        due("not otherwise", x.count(1), 2);
        due("starts", x.starts(0, 8), -2);
        due("starts", x.starts(0, -1), -2);
        due("starts", x.starts(1, 0), -2);
    }

    private static void swaps() {
        OneAtATime x = with("bits 3 start 1:0120;");
        due("swaps", x.swaps(0, 0, 2), 3);
        dueSteps(x, 0, "2102");
        due("start", x.look(0, 3), 4);
        due("one bit", x.swaps(0, 1, 1), 0);
        due("acts", x.count(1), 2);
        OneAtATime start = with("bits 3 start 1:2;");
        due("the start alone", start.swaps(0, 0, 1), 0);
        due("is otherwise", start.count(1), 2);
        due("start", start.look(0, 3), 2);
        due("swaps", x.swaps(0, 3, 0), -2);
        due("swaps", x.swaps(0, 0, 3), -2);
        due("swaps", x.swaps(0, -1, 0), -2);
        due("swaps", x.swaps(1, 0, 0), -2);
    }

    private static void reverse() {
        OneAtATime x = with("bits 3 start 1:012;");
        due("reverse", x.reverse(0), 6);
        dueSteps(x, 0, "210");
        due("the last word", x.word(0, 3), 1);
        due("reverse", x.reverse(0), 1);
        due("acts", x.count(1), 3);
        OneAtATime same = with("bits 2 start 1:0110;");
        due("reverse", same.reverse(0), 1);
        due("not otherwise", same.count(1), 1);
        due("no list", x.reverse(1), -2);
    }

    private static void rolls() {
        OneAtATime x = with(GRAY3);
        due("rolls", x.rolls(0, 3), 2);
        dueSteps(x, 0, "20102010");
        due("rolls", x.rolls(0, 7), 3);
        due("acts", x.count(1), 3);
        due("not otherwise", x.rolls(0, 0), 3);
        due("acts", x.count(1), 3);
        due("place", x.rolls(0, 8), -2);
        due("place", x.rolls(0, -1), -2);
        due("no list", x.rolls(1, 0), -2);
        OneAtATime line = with("bits 3 start 0:01;");
        due("no loop", line.rolls(0, 1), -6);
        due("no such place ahead", line.rolls(0, 2), -2);
        due("no place at all", with("bits 3 start 0:;").rolls(0, 0), -2);
    }

    private static void adds() {
        OneAtATime x = with("bits 3 start 0:0;");
        due("adds", x.adds(0, 2), 5);
        dueSteps(x, 0, "02");
        due("acts", x.count(1), 2);
        due("adds", x.adds(0, 3), -2);
        due("adds", x.adds(0, -1), -2);
        due("adds", x.adds(1, 0), -2);
        OneAtATime most = with("bits 1 start 0:" + "0".repeat(255) + ";");
        due("the 256th", most.adds(0, 0), 0);
        due("there are 256", most.adds(0, 0), -5);
        due("-2 ahead", most.adds(0, 1), -2);
    }

    private static void cuts() {
        OneAtATime x = with(GRAY3);
        due("cuts", x.cuts(0, 3), 5);
        dueSteps(x, 0, "01020");
        due("acts", x.count(1), 2);
        due("cuts", x.cuts(0, 6), -2);
        due("cuts", x.cuts(0, 0), -2);
        due("cuts", x.cuts(0, -1), -2);
        due("all", x.cuts(0, 5), 0);
        due("none left", x.cuts(0, 1), -2);
        due("no list", x.cuts(1, 1), -2);
    }

    private static int alikeOf(String one, String two) {
        OneAtATime x = with(one);
        TapeWriter.tells(x, 1, two);
        int answer = x.alike(0, 1);
        due("the other way", x.alike(1, 0), answer);
        return answer;
    }

    private static void alike() {
        due("other names", alikeOf("bits 3 start 0:01021;", "bits 8 start 9:74764;"), 1);
        due("other steps", alikeOf("bits 3 start 0:01021;", "bits 3 start 0:01012;"), 0);
        due("one name for two", alikeOf("bits 3 start 0:012;", "bits 3 start 0:010;"), 0);
        due("no loops, back", alikeOf("bits 3 start 0:0012;", "bits 3 start 0:0122;"), 0);
        due("loops from another place", alikeOf(GRAY3, "bits 3 start 0:20102010;"), 1);
        due("a loop and none", alikeOf("bits 2 start 0:00;", "bits 2 start 0:01;"), 0);
        due("loops unlike", alikeOf(GRAY3, "bits 3 start 0:01201200;"), 0);
        // a loop that is another one when it is told back
        due("on alone", alikeOf("bits 4 start 0:01123032;", "bits 4 start 5:01310322;"), 1);
        due("back alone", alikeOf("bits 4 start 0:01123032;", "bits 4 start 0:23032110;"), 1);
        due("back from another place",
            alikeOf("bits 4 start 0:01123032;", "bits 4 start 9:32110230;"), 1);
        due("from its own place", with("bits 4 start 0:01123032;").alike(0, 0), 1);
        due("loops of other lengths", alikeOf(GRAY3, LADDER3), 0);
        due("lengths", alikeOf("bits 3 start 0:01;", "bits 3 start 0:012;"), 0);
        due("without steps", alikeOf("bits 3 start 0:;", "bits 5 start 7:;"), 1);
        due("with itself", with(GRAY3).alike(0, 0), 1);
        due("no list", with(GRAY3).alike(0, 1), -2);
        due("no list", with(GRAY3).alike(1, 0), -2);
        due("no slot", with(GRAY3).alike(0, 3), -2);
    }

    private static void drops() {
        OneAtATime x = with(GRAY3);
        due("drops", x.drops(0), 1);
        due("slots", x.count(0), 0);
        due("acts", x.count(1), 2);
        due("drops", x.drops(0), 0);
        due("drops", x.drops(1), 0);
        due("acts", x.count(1), 2);
        due("drops", x.drops(3), -2);
        due("drops", x.drops(-1), -2);
        due("undo", x.undo(), 1);
        dueSteps(x, 0, "01020102");
    }

    private static void undo() {
        OneAtATime x = with("bits 8 levels 2 to 5 start 200:;");
        for (int i = 0; i < 12; i++) {
            x.adds(0, i % 8);
        }
        for (int i = 9; i >= 0; i--) {
            due("undo", x.undo(), i);
            due("steps", x.look(0, 4), i + 2);
        }
        due("none", x.undo(), -1);
        due("steps", x.look(0, 4), 2);
        OneAtATime y = with(GRAY3);
        y.product(0, 0, 1);
        y.mirror(0);
        y.drops(1);
        y.tell(0, 0);
        y.feed(1, 2, 3, 4, 5);
        due("undo", y.undo(), 3);
        due("slots", y.count(0), 3);
        due("the tape stays", y.count(2), 20);
        due("undo", y.undo(), 2);
        dueSteps(y, 0, "01020102");
        due("undo", y.undo(), 1);
        due("slots", y.count(0), 1);
        due("undo", y.undo(), 0);
        due("slots", y.count(0), 0);
    }

    private static void dueOut(OneAtATime x, String want) {
        String got = TapeWriter.out(x);
        if (!got.equals(want)) {
            wrong++;
            System.out.println("promise " + promise + ": out is " + got + ", due is " + want);
        }
    }

    private static void tell() {
        OneAtATime x = with("bits 8 levels 0 to 7 start 107:70;");
        due("tell", x.tell(0, 0), 34);
        dueOut(x, "bits 8 levels 0 to 7 start 107:70;");
        due("tell", x.tell(0, 1), 27);
        dueOut(x, "01101011\n11101011\n11101010\n");
        due("tell", x.tell(0, 2), -2);
        due("tell", x.tell(0, -1), -2);
        due("tell", x.tell(1, 0), -2);
        dueOut(x, "01101011\n11101011\n11101010\n");
        OneAtATime loop = with("bits 2 start 0:00;");
        due("tell", loop.tell(0, 1), 6);
        dueOut(loop, "00\n01\n");
        OneAtATime none = with("bits 5 start 20:;");
        due("tell", none.tell(0, 0), 31);
        dueOut(none, "bits 5 levels 0 to 5 start 20:;");
        OneAtATime hundred = with("bits 7 start 100:;");
        hundred.tell(0, 0);
        dueOut(hundred, "bits 7 levels 0 to 7 start 100:;");
        hundred.starts(0, 10);
        hundred.tell(0, 0);
        dueOut(hundred, "bits 7 levels 0 to 7 start 10:;");
        OneAtATime most = with("bits 8 start 0:" + "0".repeat(255) + "1;");
        due("tell", most.tell(0, 1), 257 * 9);
        due("octet", most.octet(257 * 9 - 1), 10);
        due("what was told can be read", TapeWriter.tells(x, 2, TapeWriter.out(none)), 0);
    }

    private static void octet() {
        OneAtATime x = with(GRAY3);
        due("ahead of any", x.octet(0), -1);
        x.tell(0, 1);
        due("octet", x.octet(0), 48);
        due("octet", x.octet(6), 49);
        due("octet", x.octet(31), 10);
        due("octet", x.octet(32), -1);
        due("octet", x.octet(-1), -1);
        due("octet", x.octet(Integer.MAX_VALUE), -1);
        x.drops(0);
        due("whatever came since", x.octet(6), 49);
        due("refused", x.tell(0, 0), -2);
        due("refused", x.octet(31), 10);
        x.undo();
        x.undo();
        due("whatever came since", x.octet(31), 10);
    }
}
