/** Boundary cases of the promises that ask and change nothing: 7 to 27, 31 to 33, 37 and 46. */
final class QuestionEdges {
    private static final int[] NO_FLAGS = {Edges.LEAST, -1, 2, Edges.MOST};

    private QuestionEdges() {
    }

    /** Numbers that are none, in a slot with a list: -2, and all stays. */
    private static void refuses(String name, Edges.SlotCall call, int... numbers) {
        for (int number : numbers) {
            Edges.stays(name + " " + number, x -> call.on(x, number), -2);
        }
    }

    // ---- promise 7

    @Says({"-2.", "-2 (where nothing else is told): there is no such SLOT, LIST in it,"})
    static void p07_needsAList() {
        for (int what = 0; what < 8; what++) {
            int asked = what;
            Edges.asksAList((x, slot) -> x.look(slot, asked));
        }
    }

    @Says({"-2.", "what, number as told;"})
    static void p07_whatsThatAreNone() {
        refuses("look", (x, what) -> x.look(0, what), Edges.LEAST, -1, 8, Edges.MOST);
    }

    private static void dueLook(String text, int... want) {
        OneAtATime x = Edges.with(text);
        for (int what = 0; what < 8; what++) {
            Edges.due("look " + what + " of " + text, x.look(0, what), want[what]);
        }
    }

    static void p07_theLeast() {
        dueLook("bits 1 start 0:;", 1, 0, 1, 0, 0, 1, 1, 2);
        dueLook("bits 1 levels 0 to 0 start 1:;", 1, 0, 0, 1, 0, 1, 1, 1);
        dueLook("bits 1 levels 1 to 1 start 0:0;", 1, 1, 1, 0, 1, 2, 2, 1);
    }

    static void p07_theMost() {
        dueLook("bits 8 start 255:" + "0".repeat(256) + ";", 8, 0, 8, 255, 256, 256, 2, 256);
        dueLook("bits 8 start 255:" + "0".repeat(255) + "7;", 8, 0, 8, 255, 256, 257, 3, 256);
        dueLook(Edges.reflected(8), 8, 0, 8, 0, 256, 256, 256, 256);
        dueLook("bits 8 levels 8 to 8 start 0:;", 8, 8, 8, 0, 0, 1, 1, 1);
    }

    @Says("SHOWN places: all; of a LOOP all but the last.")
    static void p07_shownPlacesOfALoopAndOfNone() {
        dueLook("bits 2 start 0:0;", 2, 0, 2, 0, 1, 2, 2, 4);
        dueLook("bits 2 start 0:00;", 2, 0, 2, 0, 2, 2, 2, 4);
        dueLook("bits 2 start 0:000;", 2, 0, 2, 0, 3, 4, 2, 4);
    }

    static void p07_wordsOfTheScopeByLevels() {
        int[] ofLevel = {1, 8, 28, 56, 70, 56, 28, 8, 1};
        for (int a = 0; a <= 8; a++) {
            int words = 0;
            for (int b = a; b <= 8; b++) {
                words += ofLevel[b];
                OneAtATime x = Edges.with("bits 8 levels " + a + " to " + b + " start 0:;");
                Edges.due("scope " + a + " to " + b, x.look(0, 7), words);
            }
        }
    }

    // ---- promise 8

    @Says("-2.")
    static void p08_needsAList() {
        for (int what = 0; what < 7; what++) {
            int asked = what;
            Edges.asksAList((x, slot) -> x.is(slot, asked));
        }
    }

    @Says("-2.")
    static void p08_whatsThatAreNone() {
        refuses("is", (x, what) -> x.is(0, what), Edges.LEAST, -1, 7, Edges.MOST);
    }

    private static void dueIs(String text, int what, int want) {
        Edges.due("is " + what + " of " + text, Edges.with(text).is(0, what), want);
    }

    @Says("LOOP: there are STEPS, and the WORD behind the last one is the START.")
    static void p08_aLoopHasStepsAndEndsAtItsStart() {
        dueIs("bits 3 start 5:;", 0, 0);
        dueIs("bits 3 start 5:0;", 0, 0);
        dueIs("bits 3 start 5:00;", 0, 1);
        dueIs("bits 3 start 5:000;", 0, 0);
        dueIs("bits 3 start 5:0011;", 0, 1);
        dueIs(Edges.turning(1, 255), 0, 0);
        dueIs(Edges.turning(1, 256), 0, 1);
    }

    @Says("CLEAN: no WORD is SHOWN twice.")
    static void p08_cleanLooksAtShownPlacesAlone() {
        dueIs("bits 2 start 0:;", 1, 1);
        dueIs("bits 2 start 0:00;", 1, 1);
        dueIs("bits 2 start 0:000;", 1, 0);
        dueIs("bits 2 start 0:010;", 1, 1);
        dueIs("bits 2 start 0:0101;", 1, 1);
        dueIs("bits 2 start 0:01010;", 1, 0);
        dueIs(Edges.reflected(8), 1, 1);
    }

    static void p08_fullOfAScopeOfOneWord() {
        dueIs("bits 3 levels 0 to 0 start 0:;", 2, 1);
        dueIs("bits 3 levels 0 to 0 start 1:;", 2, 0);
        dueIs("bits 3 levels 0 to 0 start 0:0;", 2, 0);
        dueIs("bits 3 levels 0 to 0 start 0:00;", 2, 0);
        dueIs("bits 3 levels 3 to 3 start 7:;", 2, 1);
        dueIs("bits 8 levels 8 to 8 start 255:;", 2, 1);
    }

    @Says("FULL: each WORD of the SCOPE is SHOWN once,")
    static void p08_fullLacksNoneAndShowsNoneTwice() {
        dueIs("bits 3 start 0:010201;", 2, 0);
        dueIs("bits 3 start 0:0102010;", 2, 1);
        dueIs("bits 3 start 0:01020102;", 2, 1);
        dueIs("bits 3 start 0:01020100;", 2, 0);
        dueIs("bits 3 start 0:010201020;", 2, 0);
        dueIs(Edges.reflected(8), 2, 1);
    }

    @Says("no other one.")
    static void p08_fullShowsNoWordBesidesTheScope() {
        dueIs("bits 2 levels 0 to 1 start 1:0;", 2, 0);
        dueIs("bits 2 levels 0 to 1 start 1:01;", 2, 1);
        dueIs("bits 2 levels 0 to 1 start 1:010;", 2, 0);
        dueIs("bits 2 levels 1 to 2 start 1:10;", 2, 1);
        dueIs("bits 2 levels 1 to 2 start 0:010;", 2, 0);
    }

    @Says("MONOTONE: no STEP between LEVELS k and k + 1 comes behind one between LEVELS k + 2"
        + " and k + 3 or above.")
    static void p08_monotoneOneLevelLowerIsGoodTwoIsNot() {
        dueIs("bits 4 start 0:;", 3, 1);
        dueIs("bits 4 start 0:0110;", 3, 1);
        dueIs("bits 4 start 0:01221;", 3, 1);
        dueIs("bits 4 start 0:012210;", 3, 0);
        dueIs("bits 4 start 0:012332;", 3, 1);
        dueIs("bits 4 start 0:0123321;", 3, 0);
        dueIs("bits 3 start 7:01;", 3, 1);
        dueIs("bits 3 start 7:012;", 3, 0);
    }

    @Says("SNAKE: CLEAN, and WORDS at SHOWN places that do not follow each other (of a LOOP the"
        + " last and the first do) have two bits unlike or more.")
    static void p08_snakeWordsThatDoNotFollowEachOther() {
        dueIs("bits 4 start 0:;", 4, 1);
        dueIs("bits 4 start 0:0;", 4, 1);
        dueIs("bits 4 start 0:00;", 4, 1);
        dueIs("bits 4 start 0:000;", 4, 0);
        dueIs("bits 4 start 0:01;", 4, 1);
        dueIs("bits 4 start 0:010;", 4, 0);
        dueIs("bits 4 start 0:101;", 4, 0);
        dueIs("bits 4 start 0:303;", 4, 0);
        dueIs("bits 8 start 0:707;", 4, 0);
        dueIs("bits 8 start 255:0123456701234567;", 4, 1);
        // six steps of the ladder end two bits from the start, seven one, eight come round
        dueIs("bits 4 start 0:012301;", 4, 1);
        dueIs("bits 4 start 0:0123012;", 4, 0);
        dueIs("bits 4 start 0:01230123;", 4, 1);
        dueIs("bits 2 start 0:0101;", 4, 1);
        dueIs(Edges.GRAY3, 4, 0);
    }

    @Says("OPPOSITE: a LOOP of evenly many STEPS; WORDS half of them apart have all bits unlike.")
    static void p08_oppositeHalfWayRound() {
        dueIs("bits 1 start 0:;", 5, 0);
        dueIs("bits 1 start 0:0;", 5, 0);
        dueIs("bits 1 start 0:00;", 5, 1);
        dueIs("bits 2 start 0:00;", 5, 0);
        dueIs("bits 2 start 0:0101;", 5, 1);
        // the first two are opposite, the second ones are not
        dueIs("bits 2 start 0:0110;", 5, 0);
        // 3 and 3, 2 and 1: each bit is 1 in one of two words, but not in one alone
        dueIs("bits 2 start 3:0011;", 5, 0);
        dueIs("bits 3 start 0:01201;", 5, 0);
        dueIs(Edges.LADDER3, 5, 1);
        dueIs("bits 3 start 0:012012012012;", 5, 0);
        dueIs("bits 3 start 0:012012012012012012;", 5, 1);
        dueIs("bits 8 start 170:0123456701234567;", 5, 1);
    }

    @Says("ONE TRACK: a LOOP, each TRACK is that of bit 0 rolled")
    static void p08_oneTrackOfALoopAlone() {
        dueIs("bits 1 start 0:;", 6, 0);
        dueIs("bits 1 start 0:0;", 6, 0);
        dueIs("bits 1 start 0:00;", 6, 1);
        dueIs("bits 2 start 0:00;", 6, 0);
        dueIs("bits 2 start 0:010;", 6, 0);
        dueIs("bits 2 start 0:0101;", 6, 1);
        dueIs("bits 3 start 0:0101;", 6, 0);
        dueIs("bits 3 start 4:0101;", 6, 0);
        dueIs(Edges.LADDER3, 6, 1);
        dueIs("bits 8 start 0:0123456701234567;", 6, 1);
        dueIs("bits 8 start 0:01234567012345670011;", 6, 0);
    }

    // ---- promise 9

    static void p09_needsAListAheadOfNone() {
        Edges.asksAList((x, slot) -> x.word(slot, 0));
        Edges.needsList((x, slot) -> x.word(slot, 1000));
    }

    @Says("-2 (place below 0).")
    static void p09_belowZero() {
        refuses("word", (x, place) -> x.word(0, place), Edges.LEAST, -2, -1);
    }

    @Says("NONE: not so many;")
    static void p09_theFirstTheLastAndNotSoMany() {
        OneAtATime x = Edges.with("bits 3 start 5:01;", "bits 8 start 200:;",
            Edges.turning(8, 256));
        int[] want = {5, 4, 6, -1, -1};
        for (int place = 0; place < want.length; place++) {
            Edges.due("word " + place, x.word(0, place), want[place]);
        }
        Edges.due("no steps", x.word(1, 0), 200);
        Edges.due("no steps", x.word(1, 1), -1);
        Edges.due("256", x.word(2, 255), 1);
        Edges.due("256", x.word(2, 256), 0);
        Edges.due("256", x.word(2, 257), -1);
        Edges.due("no such place", x.word(0, Edges.MOST), -1);
    }

    // ---- promise 10

    static void p10_needsAListAheadOfNone() {
        Edges.asksAList((x, slot) -> x.step(slot, 0));
        Edges.needsList((x, slot) -> x.step(slot, 1000));
    }

    @Says("-2 (i below 0, too).")
    static void p10_belowZero() {
        refuses("step", (x, i) -> x.step(0, i), Edges.LEAST, -2, -1);
    }

    @Says("NONE: not so many;")
    static void p10_theFirstTheLastAndNotSoMany() {
        OneAtATime x = Edges.with("bits 8 start 5:71;", "bits 8 start 200:;",
            "bits 8 start 0:" + "0".repeat(255) + "7;");
        int[] want = {7, 1, -1, -1};
        for (int i = 0; i < want.length; i++) {
            Edges.due("step " + i, x.step(0, i), want[i]);
        }
        Edges.due("no steps", x.step(1, 0), -1);
        Edges.due("256", x.step(2, 254), 0);
        Edges.due("256", x.step(2, 255), 7);
        Edges.due("256", x.step(2, 256), -1);
        Edges.due("no such step", x.step(0, Edges.MOST), -1);
    }

    // ---- promise 11

    static void p11_needsAListAheadOfNone() {
        Edges.asksAList((x, slot) -> x.where(slot, 0, 0));
        Edges.needsList((x, slot) -> x.where(slot, 0, 1000));
    }

    @Says({"WORD (0 .. 2 to the N less 1),", "ahead of NONE,"})
    static void p11_wordsThatAreNoneAheadOfNone() {
        refuses("where", (x, word) -> x.where(0, word, 0), Edges.LEAST, -1, 8, Edges.MOST);
        refuses("where", (x, word) -> x.where(0, word, 1000), -1, 8);
        for (int n = 1; n <= 8; n++) {
            OneAtATime x = Edges.with("bits " + n + " start 0:" + (n - 1) + ";");
            Edges.due("the last word", x.where(0, (1 << n) - 1, 0), n == 1 ? 1 : -1);
            Edges.due("one more", x.where(0, 1 << n, 0), -2);
        }
    }

    @Says("-2 (k below 0, too).")
    static void p11_kBelowZero() {
        refuses("where", (x, k) -> x.where(0, 0, k), Edges.LEAST, -1);
        Edges.due("a word not shown", Edges.with("bits 2 start 0:;").where(0, 3, -1), -2);
    }

    @Says("NONE: not so many;")
    static void p11_notSoMany() {
        OneAtATime x = Edges.with("bits 2 start 0:000;", "bits 2 start 0:00;");
        Edges.due("where", x.where(0, 0, 0), 0);
        Edges.due("where", x.where(0, 0, 1), 2);
        Edges.due("where", x.where(0, 0, 2), -1);
        Edges.due("the last place", x.where(0, 1, 1), 3);
        Edges.due("where", x.where(0, 1, 2), -1);
        Edges.due("not shown", x.where(0, 3, 0), -1);
        Edges.due("where", x.where(0, 0, Edges.MOST), -1);
        Edges.due("the last place of a loop", x.where(1, 0, 1), -1);
        Edges.due("256", Edges.with(Edges.turning(1, 256)).where(0, 1, 127), 255);
        Edges.due("256", Edges.with(Edges.turning(1, 256)).where(0, 1, 128), -1);
    }

    // ---- promise 12

    static void p12_needsAListAheadOfNone() {
        Edges.asksAList((x, slot) -> x.lacks(slot, 0));
        Edges.needsList((x, slot) -> x.lacks(slot, 1000));
    }

    @Says("-2 (k below 0, too).")
    static void p12_kBelowZero() {
        refuses("lacks", (x, k) -> x.lacks(0, k), Edges.LEAST, -2, -1);
    }

    @Says("NONE: not so many;")
    static void p12_allNoneAndOne() {
        Edges.due("a full one", Edges.with(Edges.GRAY3).lacks(0, 0), -1);
        OneAtATime x = Edges.with("bits 3 start 0:010201;", "bits 8 start 0:;",
            "bits 8 start 255:;");
        Edges.due("one", x.lacks(0, 0), 4);
        Edges.due("not so many", x.lacks(0, 1), -1);
        Edges.due("the first", x.lacks(1, 0), 1);
        Edges.due("the last", x.lacks(1, 254), 255);
        Edges.due("not so many", x.lacks(1, 255), -1);
        Edges.due("the first", x.lacks(2, 0), 0);
        Edges.due("the last", x.lacks(2, 254), 254);
        Edges.due("not so many", x.lacks(2, 255), -1);
        Edges.due("not so many", x.lacks(2, Edges.MOST), -1);
    }

    static void p12_ofTheScopeAlone() {
        OneAtATime x = Edges.with("bits 3 levels 1 to 2 start 0:;",
            "bits 3 levels 0 to 0 start 0:;", "bits 3 levels 0 to 0 start 1:;");
        int[] want = {1, 2, 3, 4, 5, 6, -1};
        for (int k = 0; k < want.length; k++) {
            Edges.due("lacks " + k, x.lacks(0, k), want[k]);
        }
        Edges.due("one word, shown", x.lacks(1, 0), -1);
        Edges.due("one word, not shown", x.lacks(2, 0), 0);
        Edges.due("not so many", x.lacks(2, 1), -1);
    }

    // ---- promise 13

    @Says("-2.")
    static void p13_needsAList() {
        Edges.asksAList((x, slot) -> x.turned(slot, 0));
    }

    @Says({"-2.", "bit,"})
    static void p13_bitsThatAreNone() {
        refuses("turned", (x, bit) -> x.turned(0, bit), Edges.LEAST, -1, 3, Edges.MOST);
        Edges.due("eight", Edges.with("bits 8 start 0:7;").turned(0, 7), 1);
        Edges.due("eight", Edges.with("bits 8 start 0:7;").turned(0, 8), -2);
        Edges.due("one", Edges.with("bits 1 start 0:;").turned(0, 1), -2);
    }

    static void p13_neverAndAlways() {
        Edges.due("no steps", Edges.with("bits 1 start 0:;").turned(0, 0), 0);
        Edges.due("never", Edges.with(Edges.turning(2, 256)).turned(0, 1), 0);
        Edges.due("always", Edges.with(Edges.turning(2, 256)).turned(0, 0), 256);
    }

    // ---- promise 14

    static void p14_needsAList() {
        Edges.asksAList((x, slot) -> x.order(slot, 0));
    }

    @Says("-2 (k 0 .. N less 1).")
    static void p14_kThatIsNone() {
        refuses("order", (x, k) -> x.order(0, k), Edges.LEAST, -1, 3, Edges.MOST);
        Edges.due("one bit", Edges.with("bits 1 start 0:;").order(0, 0), 0);
        Edges.due("one bit", Edges.with("bits 1 start 0:;").order(0, 1), -2);
    }

    @Says("of like ones the lesser.")
    static void p14_ofLikeOnesTheLesser() {
        OneAtATime x = Edges.with("bits 8 start 0:;", "bits 8 start 0:77665;",
            "bits 4 start 0:0123;");
        int[] two = {6, 7, 5, 0, 1, 2, 3, 4};
        for (int k = 0; k < 8; k++) {
            Edges.due("all like", x.order(0, k), k);
            Edges.due("some like", x.order(1, k), two[k]);
        }
        Edges.due("behind the last", x.order(1, 8), -2);
        Edges.due("the last", x.order(2, 3), 3);
    }

    // ---- promise 15

    @Says("-2.")
    static void p15_needsAList() {
        Edges.asksAList((x, slot) -> x.uneven(slot));
    }

    static void p15_noneAndTheMost() {
        Edges.due("no steps", Edges.with("bits 8 start 0:;").uneven(0), 0);
        Edges.due("one bit", Edges.with(Edges.turning(1, 256)).uneven(0), 0);
        Edges.due("all of one bit", Edges.with(Edges.turning(2, 256)).uneven(0), 256);
        Edges.due("one step", Edges.with("bits 2 start 0:1;").uneven(0), 1);
        Edges.due("even", Edges.with("bits 2 start 0:10;").uneven(0), 0);
    }

    // ---- promise 16

    static void p16_needsAListAheadOfNone() {
        Edges.asksAList((x, slot) -> x.gap(slot, -1));
        Edges.asksAList((x, slot) -> x.gap(slot, 1));
    }

    @Says("-2.")
    static void p16_bitsThatAreNone() {
        refuses("gap", (x, bit) -> x.gap(0, bit), Edges.LEAST, -3, -2, 3, Edges.MOST);
        Edges.due("without steps, too", Edges.with("bits 2 start 0:;").gap(0, 2), -2);
        Edges.due("without steps, too", Edges.with("bits 2 start 0:;").gap(0, -2), -2);
    }

    @Says("NONE: there are none such;")
    static void p16_thereAreNoneSuch() {
        OneAtATime x = Edges.with("bits 2 start 0:;", "bits 2 start 0:01;", "bits 2 start 0:00;");
        for (int bit = -1; bit < 2; bit++) {
            Edges.due("no steps", x.gap(0, bit), -1);
            Edges.due("each once", x.gap(1, bit), -1);
        }
        Edges.due("never turned in a loop", x.gap(2, 1), -1);
        Edges.due("any bit", x.gap(2, -1), 1);
    }

    static void p16_nextToEachOtherAndAsFarAsCanBe() {
        OneAtATime x = Edges.with("bits 2 start 0:000;",
            "bits 3 start 0:2" + "1".repeat(254) + "0;",
            "bits 3 start 0:0" + "1".repeat(253) + "02;");
        Edges.due("next", x.gap(0, 0), 1);
        Edges.due("the first alone", x.gap(1, 2), -1);
        Edges.due("the last alone", x.gap(1, 0), -1);
        Edges.due("far", x.gap(2, 0), 254);
        Edges.due("any", x.gap(2, -1), 1);
    }

    static void p16_ofALoopGoingRound() {
        OneAtATime x = Edges.with("bits 3 start 0:01212010;", "bits 3 start 0:0121201;",
            "bits 2 start 0:0110;");
        Edges.due("no loop", x.is(0, 0), 0);
        Edges.due("not round", x.gap(0, 0), 2);
        Edges.due("no loop", x.gap(1, 0), 5);
        Edges.due("round", x.gap(2, 0), 1);
        Edges.due("not round", Edges.with("bits 3 start 0:01102;").gap(0, 0), 3);
        Edges.due("round", Edges.with(Edges.GRAY3).gap(0, 2), 4);
        Edges.due("round", Edges.with("bits 2 start 0:00;").gap(0, 0), 1);
    }

    // ---- promise 17

    @Says("-2.")
    static void p17_needsAList() {
        Edges.asksAList((x, slot) -> x.run(slot, 0, 0));
        Edges.asksAList((x, slot) -> x.run(slot, 1, 1));
    }

    @Says("-2.")
    static void p17_bitsAndVsThatAreNone() {
        refuses("bit", (x, bit) -> x.run(0, bit, 0), Edges.LEAST, -1, 3, Edges.MOST);
        refuses("v", (x, v) -> x.run(0, 0, v), NO_FLAGS);
    }

    static void p17_noneOneAndAll() {
        OneAtATime x = Edges.with("bits 2 start 2:;", Edges.turning(2, 256),
            Edges.turning(2, 255));
        Edges.due("one place", x.run(0, 0, 0), 1);
        Edges.due("none", x.run(0, 0, 1), 0);
        Edges.due("one place", x.run(0, 1, 1), 1);
        Edges.due("all of a loop", x.run(1, 1, 0), 256);
        Edges.due("none of a loop", x.run(1, 1, 1), 0);
        Edges.due("all of no loop", x.run(2, 1, 0), 256);
        Edges.due("all of no loop", Edges.with("bits 2 start 0:" + "0".repeat(255) + "1;")
            .run(0, 1, 0), 256);
        Edges.due("all 257", Edges.with("bits 3 start 0:" + "0".repeat(255) + "1;")
            .run(0, 2, 0), 257);
    }

    static void p17_ofALoopGoingRound() {
        // bit 1 is 0 0 1 1 1 1 0 0, of a loop and of a list without the step that closes it
        OneAtATime x = Edges.with(Edges.GRAY3, "bits 3 start 0:0102010;",
            "bits 3 start 1:10201020;");
        Edges.due("over the seam", x.run(0, 1, 0), 4);
        Edges.due("within", x.run(0, 1, 1), 4);
        Edges.due("no loop", x.run(1, 1, 0), 2);
        Edges.due("over the seam, one of them first", x.run(2, 1, 0), 4);
        Edges.due("over the seam", Edges.with("bits 2 start 0:0011;").run(0, 0, 0), 3);
    }

    // ---- promise 18

    @Says("-2.")
    static void p18_needsAList() {
        Edges.asksAList((x, slot) -> x.parts(slot, 0, 0));
        Edges.asksAList((x, slot) -> x.parts(slot, 1, 1));
    }

    @Says("-2.")
    static void p18_bitsAndVsThatAreNone() {
        refuses("bit", (x, bit) -> x.parts(0, bit, 0), Edges.LEAST, -1, 3, Edges.MOST);
        refuses("v", (x, v) -> x.parts(0, 0, v), NO_FLAGS);
    }

    static void p18_noneOneAndTheMost() {
        OneAtATime x = Edges.with("bits 2 start 2:;", Edges.turning(2, 256),
            Edges.turning(2, 255));
        Edges.due("one place", x.parts(0, 0, 0), 1);
        Edges.due("none", x.parts(0, 0, 1), 0);
        Edges.due("all of a loop", x.parts(1, 1, 0), 1);
        Edges.due("none of a loop", x.parts(1, 1, 1), 0);
        Edges.due("the most", x.parts(1, 0, 0), 128);
        Edges.due("the most", x.parts(1, 0, 1), 128);
        Edges.due("no loop", x.parts(2, 0, 0), 128);
        Edges.due("no loop", x.parts(2, 0, 1), 128);
        Edges.due("no loop of 256", Edges.with("bits 3 start 0:" + "0".repeat(255) + "1;")
            .parts(0, 0, 0), 128);
    }

    static void p18_ofALoopGoingRound() {
        OneAtATime x = Edges.with(Edges.GRAY3, "bits 3 start 0:0102010;",
            "bits 2 start 0:001;");
        Edges.due("both ends are one", x.parts(0, 0, 0), 2);
        Edges.due("both ends are two", x.parts(1, 0, 0), 3);
        Edges.due("no end", x.parts(0, 0, 1), 2);
        Edges.due("no end", x.parts(1, 0, 1), 2);
        Edges.due("no loop", x.parts(2, 0, 0), 2);
        Edges.due("a loop", Edges.with("bits 2 start 0:0011;").parts(0, 0, 0), 1);
        Edges.due("first place alone", Edges.with("bits 1 start 1:00;").parts(0, 0, 1), 1);
        Edges.due("last place alone", Edges.with("bits 1 start 0:00;").parts(0, 0, 1), 1);
    }

    // ---- promise 19

    static void p19_needsAListAheadOfNone() {
        Edges.asksAList((x, slot) -> x.level(slot, 0, 0));
        Edges.asksAList((x, slot) -> x.level(slot, 2, 1));
    }

    @Says("-2.")
    static void p19_levelsAndLastsThatAreNone() {
        refuses("level", (x, l) -> x.level(0, l, 0), Edges.LEAST, -1, 4, Edges.MOST);
        refuses("last", (x, last) -> x.level(0, 0, last), NO_FLAGS);
        for (int n = 1; n <= 8; n++) {
            OneAtATime x = Edges.with("bits " + n + " start " + ((1 << n) - 1) + ":;");
            Edges.due("level N", x.level(0, n, 0), 0);
            Edges.due("level N and 1", x.level(0, n + 1, 0), -2);
            Edges.due("there is none such", x.level(0, n - 1, 1), -1);
        }
    }

    @Says("NONE: there is none such;")
    static void p19_noneOneAndMore() {
        OneAtATime x = Edges.with("bits 3 start 0:0;", "bits 3 start 0:000;", Edges.GRAY3);
        Edges.due("none", x.level(0, 2, 0), -1);
        Edges.due("none", x.level(0, 2, 1), -1);
        Edges.due("one", x.level(0, 1, 0), 1);
        Edges.due("one", x.level(0, 1, 1), 1);
        Edges.due("the first", x.level(1, 1, 0), 1);
        Edges.due("the last of all", x.level(1, 1, 1), 3);
        Edges.due("the last of all is not shown", x.level(2, 0, 1), 0);
        Edges.due("256", Edges.with(Edges.turning(1, 256)).level(0, 0, 1), 254);
        Edges.due("257", Edges.with("bits 2 start 0:" + "0".repeat(255) + "1;")
            .level(0, 2, 1), 256);
    }

    // ---- promise 20

    @Says("-2.")
    static void p20_needsTwoLists() {
        Edges.asksAList((x, slot) -> x.same(slot, 0));
        Edges.asksAList((x, slot) -> x.same(0, slot));
        Edges.due("none of both", new OneAtATime().same(0, 0), -2);
    }

    static void p20_theFewerSteps() {
        OneAtATime x = Edges.with("bits 3 start 0:;", Edges.GRAY3, "bits 8 start 0:010201020;");
        Edges.due("no steps", x.same(0, 0), 1);
        Edges.due("one place", x.same(0, 1), 1);
        Edges.due("one place", x.same(1, 0), 1);
        Edges.due("the last place, too", x.same(1, 1), 9);
        Edges.due("all of the fewer", x.same(1, 2), 9);
        Edges.due("all of the fewer", x.same(2, 1), 9);
        x.starts(0, 1);
        Edges.due("none", x.same(0, 1), 0);
        x.starts(2, 1);
        Edges.due("none", x.same(1, 2), 0);
        Edges.due("257", Edges.with(Edges.turning(1, 256)).same(0, 0), 257);
    }

    // ---- promise 21

    static void p21_needsAListAheadOfNone() {
        Edges.asksAList((x, slot) -> x.shift(slot, 0));
        Edges.asksAList((x, slot) -> x.shift(slot, 1));
    }

    @Says("-2.")
    static void p21_bitsThatAreNoneAheadOfNone() {
        refuses("shift", (x, bit) -> x.shift(0, bit), Edges.LEAST, -1, 3, Edges.MOST);
        OneAtATime line = Edges.with("bits 2 start 0:;");
        Edges.due("no loop", line.shift(0, 2), -2);
        Edges.due("no loop", line.shift(0, -1), -2);
        Edges.due("no loop", line.shift(0, 1), -1);
    }

    @Says("NONE: by none, no LOOP;")
    static void p21_noLoopAndByNone() {
        OneAtATime x = Edges.with("bits 2 start 0:;", "bits 2 start 0:010;",
            "bits 2 start 0:00;");
        Edges.due("no steps", x.shift(0, 0), -1);
        Edges.due("no loop", x.shift(1, 0), -1);
        Edges.due("itself", x.shift(2, 0), 0);
        Edges.due("by none", x.shift(2, 1), -1);
    }

    static void p21_theFewestFromZeroToOneFewerThanSteps() {
        OneAtATime x = Edges.with("bits 3 start 0:012012012012;", "bits 2 start 2:0101;",
            "bits 2 start 0:0101;");
        Edges.due("the fewest, not 11", x.shift(0, 1), 5);
        Edges.due("the fewest, not 10", x.shift(0, 2), 4);
        Edges.due("by one", x.shift(1, 1), 1);
        Edges.due("by all but one", x.shift(2, 1), 3);
        Edges.due("of bit 0 itself", x.shift(0, 0), 0);
        OneAtATime most = Edges.with("bits 2 start 0:" + "01".repeat(128) + ";");
        Edges.due("256 steps, the fewest", most.shift(0, 1), 3);
        Edges.due("256 steps, by none", Edges.with(Edges.reflected(8)).shift(0, 7), -1);
    }

    // ---- promise 22

    static void p22_needsAList() {
        Edges.asksAList((x, slot) -> x.apart(slot, 0, 4));
    }

    @Says("-2: there are none such.")
    static void p22_placesThatAreNone() {
        refuses("place", (x, place) -> x.apart(0, place, 0), Edges.LEAST, -1, 9, Edges.MOST);
        refuses("other", (x, place) -> x.apart(0, 0, place), Edges.LEAST, -1, 9, Edges.MOST);
    }

    static void p22_theFirstAndTheLastPlace() {
        OneAtATime x = Edges.with("bits 8 start 0:01234567;", "bits 8 start 0:;",
            Edges.turning(1, 256));
        Edges.due("no bit", x.apart(0, 0, 0), 0);
        Edges.due("all bits", x.apart(0, 0, 8), 8);
        Edges.due("all bits", x.apart(0, 8, 0), 8);
        Edges.due("one", x.apart(0, 7, 8), 1);
        Edges.due("behind the last", x.apart(0, 0, 9), -2);
        Edges.due("no steps", x.apart(1, 0, 0), 0);
        Edges.due("no steps", x.apart(1, 0, 1), -2);
        Edges.due("no steps", x.apart(1, 1, 0), -2);
        Edges.due("256", x.apart(2, 256, 255), 1);
        Edges.due("257", x.apart(2, 257, 255), -2);
    }

    // ---- promise 23

    @Says("-2.")
    static void p23_needsAList() {
        Edges.asksAList((x, slot) -> x.spread(slot));
    }

    private static void dueSpread(String text, int want) {
        Edges.due("spread of " + text, Edges.with(text).spread(0), want);
    }

    @Says("NONE: not for 1 (one WORD is SHOWN twice);")
    static void p23_oneWordShownTwice() {
        dueSpread("bits 3 start 0:000;", -1);
        dueSpread("bits 3 start 0:0100;", -1);
        dueSpread("bits 2 start 0:01010;", -1);
        dueSpread(Edges.turning(8, 256), -1);
        dueSpread("bits 3 start 0:00;", 3);
    }

    static void p23_oneWordAndTwo() {
        for (int n = 1; n <= 8; n++) {
            dueSpread("bits " + n + " start 0:;", n);
            dueSpread("bits " + n + " start 0:" + (n - 1) + ";", n);
        }
    }

    static void p23_fromOneToN() {
        dueSpread("bits 3 start 0:010;", 1);
        dueSpread("bits 3 start 0:0120;", 2);
        dueSpread(Edges.LADDER3, 3);
        dueSpread(Edges.GRAY3, 1);
        dueSpread("bits 8 start 0:0123456701234567;", 8);
        dueSpread("bits 7 start 0:01234560123456;", 7);
    }

    static void p23_asIfNoneWereAskedAhead() {
        OneAtATime x = Edges.with(Edges.GRAY3, Edges.LADDER3, "bits 3 start 0:000;");
        int[] want = {1, 3, -1};
        for (int first = 0; first < 3; first++) {
            for (int second = 0; second < 3; second++) {
                Edges.due("spread", x.spread(first), want[first]);
                Edges.due("spread", x.spread(second), want[second]);
            }
        }
    }

    static void p23_ofALoopTheNearerWay() {
        // seven steps of the ladder of four end beside the start, far off as places go
        dueSpread("bits 4 start 0:0123012;", 1);
        dueSpread("bits 4 start 0:01230123;", 4);
        dueSpread("bits 2 start 0:010;", 1);
        dueSpread("bits 2 start 0:0101;", 2);
    }

    // ---- promise 24

    static void p24_needsAList() {
        Edges.asksAList((x, slot) -> x.climbs(slot, 0, 0));
        Edges.asksAList((x, slot) -> x.climbs(slot, 1, 1));
    }

    @Says("-2 (l 0 .. N less 1).")
    static void p24_levelsAndUpsThatAreNone() {
        refuses("level", (x, l) -> x.climbs(0, l, 1), Edges.LEAST, -1, 3, Edges.MOST);
        refuses("level", (x, l) -> x.climbs(0, l, 0), Edges.LEAST, -1, 3, Edges.MOST);
        refuses("up", (x, up) -> x.climbs(0, 0, up), NO_FLAGS);
        for (int n = 1; n <= 8; n++) {
            OneAtATime x = Edges.with("bits " + n + " start " + ((1 << n) - 1) + ":00;");
            Edges.due("back from N", x.climbs(0, n - 1, 0), 1);
            Edges.due("up to N", x.climbs(0, n - 1, 1), 1);
            Edges.due("from N", x.climbs(0, n, 1), -2);
            Edges.due("back to N", x.climbs(0, n, 0), -2);
        }
    }

    static void p24_noneAndTheMost() {
        OneAtATime x = Edges.with("bits 2 start 0:;", "bits 2 start 0:0;", Edges.turning(1, 256));
        Edges.due("no steps", x.climbs(0, 0, 1), 0);
        Edges.due("up", x.climbs(1, 0, 1), 1);
        Edges.due("not back", x.climbs(1, 0, 0), 0);
        Edges.due("not higher", x.climbs(1, 1, 1), 0);
        // levels 0 1 2 1: the second and third are between the same two
        OneAtATime four = Edges.with("bits 3 start 0:010;");
        int[][] want = {{0, 1}, {1, 1}, {0, 0}};
        for (int l = 0; l < 3; l++) {
            Edges.due("back", four.climbs(0, l, 0), want[l][0]);
            Edges.due("up", four.climbs(0, l, 1), want[l][1]);
        }
        Edges.due("the most", x.climbs(2, 0, 1), 128);
        Edges.due("the most", x.climbs(2, 0, 0), 128);
    }

    // ---- promises 25 to 27

    @Says("-2: a number below 0.")
    static void p25_belowZero() {
        refuses("code", OneAtATime::code, Edges.LEAST, Edges.LEAST + 1, -2, -1);
    }

    static void p25_zeroAndTheMost() {
        OneAtATime x = new OneAtATime();
        Edges.due("code", x.code(0), 0);
        Edges.due("code", x.code(1), 1);
        Edges.due("code", x.code(2), 3);
        Edges.due("code", x.code(Edges.MOST), 1 << 30);
        Edges.due("code", x.code(Edges.MOST - 1), (1 << 30) + 1);
        Edges.due("code", x.code(1 << 30), 3 << 29);
        Edges.stays("code", y -> y.code(5), 7);
    }

    @Says("-2: a WORD below 0.")
    static void p26_belowZero() {
        refuses("rank", OneAtATime::rank, Edges.LEAST, Edges.LEAST + 1, -2, -1);
    }

    static void p26_zeroAndTheMost() {
        OneAtATime x = new OneAtATime();
        Edges.due("rank", x.rank(0), 0);
        Edges.due("rank", x.rank(1), 1);
        Edges.due("rank", x.rank(2), 3);
        Edges.due("rank", x.rank(1 << 30), Edges.MOST);
        Edges.due("rank", x.rank((1 << 30) + 1), Edges.MOST - 1);
        Edges.due("rank", x.rank(Edges.MOST), 0x55555555);
        for (int bit = 0; bit < 31; bit++) {
            Edges.due("rank of one bit", x.rank(1 << bit), (1L << bit + 1) - 1);
        }
        Edges.stays("rank", y -> y.rank(7), 5);
    }

    @Says("-2: i below 1.")
    static void p27_belowOne() {
        refuses("ruler", OneAtATime::ruler, Edges.LEAST, -2, -1, 0);
    }

    static void p27_oneAndTheMost() {
        OneAtATime x = new OneAtATime();
        Edges.due("ruler", x.ruler(1), 0);
        Edges.due("ruler", x.ruler(2), 1);
        Edges.due("ruler", x.ruler(Edges.MOST), 0);
        Edges.due("ruler", x.ruler(Edges.MOST - 1), 1);
        for (int bit = 0; bit < 31; bit++) {
            Edges.due("ruler of one bit", x.ruler(1 << bit), bit);
        }
        Edges.stays("ruler", y -> y.ruler(12), 2);
    }

    // ---- promise 31

    @Says("-2.")
    static void p31_needsAList() {
        Edges.asksAList((x, slot) -> x.open(slot));
    }

    static void p31_noneAndAll() {
        Edges.due("a full loop", Edges.with(Edges.GRAY3).open(0), 0);
        Edges.due("a full list", Edges.with("bits 3 start 0:0102010;").open(0), 0);
        Edges.due("one word lacks", Edges.with("bits 3 start 0:010201;").open(0), 1);
        for (int n = 1; n <= 8; n++) {
            OneAtATime x = Edges.with("bits " + n + " start 0:;");
            Edges.due("all bits", x.open(0), (1 << n) - 1);
        }
    }

    static void p31_ofTheScopeAlone() {
        String text = "bits 3 levels %d to %d start 3:;";
        Edges.due("below", Edges.with(String.format(text, 1, 1)).open(0), 3);
        Edges.due("its own", Edges.with(String.format(text, 2, 2)).open(0), 0);
        Edges.due("above", Edges.with(String.format(text, 3, 3)).open(0), 4);
        Edges.due("far", Edges.with(String.format(text, 0, 0)).open(0), 0);
        Edges.due("from no word of it", Edges.with("bits 3 levels 1 to 1 start 0:;").open(0), 7);
    }

    static void p31_shownOnesAreNotOpen() {
        Edges.due("the one ahead", Edges.with("bits 3 start 0:0;").open(0), 6);
        Edges.due("a loop's start", Edges.with("bits 3 start 0:00;").open(0), 6);
        Edges.due("of a ladder's end", Edges.with("bits 3 start 0:01201;").open(0), 1);
    }

    // ---- promise 32

    static void p32_needsAListAheadOfNone() {
        Edges.asksAList((x, slot) -> x.way(slot, 0, 0));
        Edges.asksAList((x, slot) -> x.way(slot, 0, 3));
    }

    @Says("-2.")
    static void p32_wordsThatAreNone() {
        refuses("word", (x, word) -> x.way(0, word, 0), Edges.LEAST, -1, 8, Edges.MOST);
        refuses("other", (x, word) -> x.way(0, 0, word), Edges.LEAST, -1, 8, Edges.MOST);
        refuses("one word that is none", (x, word) -> x.way(0, word, word), -1, 8);
        for (int n = 1; n <= 8; n++) {
            OneAtATime x = Edges.with("bits " + n + " start 0:;");
            int last = (1 << n) - 1;
            Edges.due("the last word", x.way(0, 0, last), n);
            Edges.due("the last word", x.way(0, last, 0), n);
            Edges.due("one more", x.way(0, 0, last + 1), -2);
            Edges.due("one more", x.way(0, last + 1, 0), -2);
        }
    }

    static void p32_oneWordAndBesideEachOther() {
        OneAtATime x = Edges.with(Edges.GRAY3, "bits 3 levels 3 to 3 start 0:;");
        Edges.due("shown", x.way(0, 5, 5), 0);
        Edges.due("not of the scope", x.way(1, 1, 1), 0);
        Edges.due("both shown", x.way(0, 0, 1), 1);
        Edges.due("both not of the scope", x.way(1, 1, 3), 1);
        Edges.due("no free word between", x.way(0, 0, 3), -1);
        Edges.due("no free word between", x.way(1, 0, 3), -1);
        Edges.due("a free word between", x.way(1, 3, 6), 2);
    }

    @Says("NONE: there is no such way;")
    static void p32_roundAboutAndNoWay() {
        // shown 0 1 3 7: from 0 to 7 by 2 6, or by 4 6, 4 5
        OneAtATime x = Edges.with("bits 3 start 0:012;", "bits 3 levels 0 to 2 start 0:01;",
            "bits 3 levels 1 to 1 start 0:;");
        Edges.due("by free words", x.way(0, 0, 7), 3);
        Edges.due("round about", x.way(0, 1, 2), 4);
        Edges.due("the lowest levels alone", x.way(1, 2, 5), 3);
        Edges.due("by the scope", x.way(2, 0, 6), 2);
        Edges.due("no way by it", x.way(2, 0, 7), -1);
        Edges.due("eight", Edges.with("bits 8 start 0:;").way(0, 85, 170), 8);
    }

    // ---- promise 33

    static void p33_needsAListAheadOfAll() {
        Edges.asksAList((x, slot) -> x.evenest(slot, 0));
        Edges.asksAList((x, slot) -> x.evenest(slot, 1));
    }

    @Says("-2.")
    static void p33_whatsThatAreNoneAheadOfAll() {
        for (int what : NO_FLAGS) {
            Edges.stays("a loop", x -> x.evenest(0, what), -2);
            Edges.stays("17 steps", Edges.lists(Edges.turning(4, 17)), x -> x.evenest(0, what), -2);
            Edges.stays("no loop", Edges.lists("bits 2 start 0:;"), x -> x.evenest(0, what), -2);
        }
    }

    @Says("-5: it has more than 16 STEPS;")
    static void p33_moreThan16Steps() {
        for (int what = 0; what < 2; what++) {
            Edges.due("15", Edges.with(Edges.turning(4, 15)).evenest(0, what), -6);
            Edges.due("16", Edges.with(Edges.turning(4, 16)).evenest(0, what), -6);
            Edges.due("17", Edges.with(Edges.turning(4, 17)).evenest(0, what), -5);
            Edges.due("32", Edges.with(Edges.reflected(5)).evenest(0, what), -5);
            Edges.due("256", Edges.with(Edges.reflected(8)).evenest(0, what), -5);
            int asked = what;
            Edges.stays("17", Edges.lists(Edges.turning(4, 17)), x -> x.evenest(0, asked), -5);
        }
        OneAtATime sixteen = Edges.with(Edges.reflected(4));
        long least = sixteen.evenest(0, 0);
        long cuts = sixteen.evenest(0, 1);
        Edges.due("16 steps can be cut", sixteen.extend(0, cuts), 6);
        Edges.due("how much it is then", sixteen.uneven(0), least);
    }

    @Says("-6: it is no FULL LOOP with A 0, B N;")
    static void p33_noFullLoopOfAllLevels() {
        String[] texts = {
            "bits 2 start 0:;", "bits 2 start 0:010;", "bits 2 start 0:00;",
            "bits 2 levels 0 to 1 start 0:0101;", "bits 2 levels 1 to 2 start 0:0101;",
            "bits 3 levels 1 to 2 start 1:102102;", "bits 2 start 0:01010101;",
            Edges.LADDER3,
        };
        for (String text : texts) {
            for (int what = 0; what < 2; what++) {
                int asked = what;
                Edges.stays(text, Edges.lists(text), x -> x.evenest(0, asked), -6);
            }
        }
        Edges.due("0 to N", Edges.with("bits 2 levels 0 to 2 start 0:0101;").evenest(0, 1), 5);
    }

    static void p33_theLeastLoop() {
        // 01020102: bit 0 four times, the new ones twice; there is no other cut
        OneAtATime x = Edges.with("bits 1 start 0:00;");
        Edges.due("how much", x.evenest(0, 0), 2);
        Edges.due("the cuts", x.evenest(0, 1), 0);
    }

    static void p33_ofLikeOnesTheLeastNumber() {
        // by no cut bits are turned 8 4 2 2 times, by 3 and by 6 it is 6 2 4 4, by 5 4 4 4 4
        OneAtATime x = Edges.with("bits 2 start 0:0101;");
        Edges.due("how much", x.evenest(0, 0), 0);
        Edges.due("the cuts", x.evenest(0, 1), 5);
        for (int place = 0; place < 8; place++) {
            int from = place;
            dueLeastOfAll(y -> {
                TapeWriter.tells(y, 0, Edges.GRAY3);
                y.rolls(0, from);
            });
        }
    }

    /** All cuts of a loop of eight steps are tried. */
    private static void dueLeastOfAll(Edges.Setup made) {
        OneAtATime x = Edges.fresh(made);
        int least = Edges.MOST;
        long leastCuts = 0;
        for (long cuts = 0; cuts < 128; cuts++) {
            if (Long.bitCount(cuts) % 2 == 0) {
                x.extend(0, cuts);
                if (x.uneven(0) < least) {
                    least = x.uneven(0);
                    leastCuts = cuts;
                }
                x.undo();
            }
        }
        Edges.due("how much", Edges.fresh(made).evenest(0, 0), least);
        Edges.due("the cuts", Edges.fresh(made).evenest(0, 1), leastCuts);
    }

    // ---- promise 37

    @Says("-2.")
    static void p37_needsAList() {
        Edges.asksAList((x, slot) -> x.twistable(slot));
    }

    static void p37_twosOfPlacesNextToEachOtherDoNotCount() {
        Edges.due("no steps", Edges.with("bits 2 start 0:;").twistable(0), 0);
        Edges.due("one", Edges.with("bits 2 start 0:0;").twistable(0), 0);
        Edges.due("two", Edges.with("bits 2 start 0:01;").twistable(0), 0);
        Edges.due("three", Edges.with("bits 2 start 0:010;").twistable(0), 0);
        Edges.due("four", Edges.with("bits 2 start 0:0101;").twistable(0), 1);
        // places 0 and 3, 1 and 4
        Edges.due("five", Edges.with("bits 2 start 0:01010;").twistable(0), 2);
        Edges.due("j below steps", Edges.with("bits 3 start 0:0102010;").twistable(0), 0);
        Edges.due("j below steps", Edges.with(Edges.GRAY3).twistable(0), 1);
    }

    static void p37_theMost() {
        // 0 and 1 in turn: every two of places that are oddly far apart, but not one
        Edges.due("255", Edges.with(Edges.turning(1, 255)).twistable(0), pairs(255));
        Edges.due("256", Edges.with(Edges.turning(1, 256)).twistable(0), pairs(256));
    }

    private static int pairs(int steps) {
        int found = 0;
        for (int far = 3; far < steps; far += 2) {
            found += steps - far;
        }
        return found;
    }

    // ---- promise 46

    @Says("-2.")
    static void p46_needsTwoLists() {
        Edges.asksAList((x, slot) -> x.alike(slot, 0));
        Edges.asksAList((x, slot) -> x.alike(0, slot));
        Edges.due("none of both", new OneAtATime().alike(0, 0), -2);
    }

    private static void dueAlike(String one, String two, int want) {
        OneAtATime x = Edges.with(one, two);
        Edges.due(one + " and " + two, x.alike(0, 1), want);
        Edges.due(two + " and " + one, x.alike(1, 0), want);
    }

    static void p46_withoutSteps() {
        dueAlike("bits 3 start 0:;", "bits 3 start 5:;", 1);
        dueAlike("bits 3 start 0:;", "bits 8 levels 3 to 4 start 5:;", 1);
        dueAlike("bits 3 start 0:;", "bits 3 start 0:0;", 0);
        dueAlike("bits 3 start 0:;", "bits 3 start 0:00;", 0);
    }

    static void p46_oneStepMore() {
        dueAlike("bits 3 start 0:01;", "bits 3 start 0:012;", 0);
        dueAlike("bits 3 start 0:012;", "bits 3 start 0:012;", 1);
        dueAlike(Edges.turning(1, 256), Edges.turning(2, 256), 1);
        dueAlike(Edges.turning(1, 256), Edges.turning(1, 255), 0);
        dueAlike(Edges.turning(1, 256), Edges.turning(1, 254), 0);
    }

    static void p46_aLoopAndNone() {
        dueAlike("bits 2 start 0:00;", "bits 2 start 0:01;", 0);
        dueAlike("bits 2 start 0:0011;", "bits 3 start 0:0012;", 0);
    }

    static void p46_bitsAreNamedByTheirFirstTurn() {
        dueAlike("bits 8 start 0:01234567;", "bits 8 start 0:76543210;", 1);
        dueAlike("bits 8 start 0:01234567;", "bits 8 start 0:01234560;", 0);
        dueAlike("bits 8 start 0:01234560;", "bits 8 start 0:01234561;", 0);
    }

    static void p46_noLoopFromItsStartOnAlone() {
        dueAlike("bits 3 start 0:0012;", "bits 3 start 0:0112;", 0);
        dueAlike("bits 3 start 0:0012;", "bits 3 start 0:0122;", 0);
        dueAlike("bits 3 start 0:0012;", "bits 3 start 7:1120;", 1);
    }

    static void p46_loopsFromEveryPlaceBothWays() {
        // a loop that read back is another one
        String loop = "01123032";
        for (int place = 0; place < 8; place++) {
            String rolled = loop.substring(place) + loop.substring(0, place);
            dueAlike("bits 4 start 0:" + loop + ";", "bits 4 start 6:" + rolled + ";", 1);
            String back = new StringBuilder(rolled).reverse().toString();
            dueAlike("bits 4 start 0:" + loop + ";", "bits 4 start 9:" + back + ";", 1);
        }
        dueAlike("bits 4 start 0:01123032;", "bits 4 start 0:01123023;", 0);
        dueAlike("bits 2 start 0:0011;", "bits 2 start 0:0110;", 1);
        dueAlike("bits 2 start 0:0011;", "bits 2 start 0:0101;", 0);
        dueAlike(Edges.reflected(8), Edges.turning(8, 256), 0);
        dueAlike(Edges.reflected(8), Edges.reflected(8), 1);
    }
}
