/** Boundary cases of the promises that change a slot: 28 to 30, 34 to 36, 38 to 45, 47 and 48. */
final class ActEdges {
    private static final int[] NO_TRIES = {Edges.LEAST, -1, 0, 50001, Edges.MOST};

    private ActEdges() {
    }

    /** Numbers that are none, told to a slot with a list: -2, and all stays. */
    private static void refuses(String name, Edges.SlotCall call, int... numbers) {
        for (int number : numbers) {
            Edges.stays(name + " " + number, x -> call.on(x, number), -2);
        }
    }

    /** A call on slot 0 with one list, that changes nothing. */
    private static void leaves(String text, Edges.Call call, long want) {
        Edges.stays("a call on " + text, Edges.lists(text), call, want);
    }

    /** A call on slot 0 that is an act and makes its list another one, whatever came since. */
    private static void becomes(String text, Edges.Call call, long want, String list) {
        Edges.Setup made = Edges.lists(text, "bits 5 levels 1 to 4 start 9:43210;");
        Edges.isAct("a call on " + text, made, call, want);
        OneAtATime x = Edges.fresh(made);
        call.on(x);
        Edges.dueText("what became of " + text, Edges.list(x, 0), list);
        Edges.dueText("the other slot", Edges.list(x, 1), "5 1 4 9:43210");
    }

    // ---- promise 28

    @Says("-2.")
    static void p28_needsAList() {
        for (int what = 0; what < 3; what++) {
            int made = what;
            Edges.needsList((x, slot) -> x.makes(slot, made));
        }
    }

    @Says("-2.")
    static void p28_whatsThatAreNone() {
        refuses("makes", (x, what) -> x.makes(0, what), Edges.LEAST, -1, 3, Edges.MOST);
    }

    static void p28_reflectedFromOneBitToEight() {
        becomes("bits 1 start 1:;", x -> x.makes(0, 0), 2, "1 0 1 1:00");
        becomes("bits 2 levels 1 to 1 start 3:;", x -> x.makes(0, 0), 4, "2 1 1 3:0101");
        for (int n = 1; n <= 8; n++) {
            OneAtATime x = Edges.with("bits " + n + " start 1:;");
            Edges.due("steps", x.makes(0, 0), 1 << n);
            Edges.due("a loop", x.is(0, 0), 1);
            Edges.due("full", x.is(0, 2), 1);
            Edges.due("the last step", x.step(0, (1 << n) - 1), n - 1);
            Edges.due("its start stays", x.look(0, 3), 1);
        }
    }

    static void p28_ladderFromOneBitToEight() {
        becomes("bits 1 start 1:;", x -> x.makes(0, 1), 2, "1 0 1 1:00");
        becomes("bits 8 levels 2 to 3 start 200:7;", x -> x.makes(0, 1), 16,
            "8 2 3 200:0123456701234567");
    }

    static void p28_twiceUpTo256() {
        becomes(Edges.turning(2, 1), x -> x.makes(0, 2), 2, "2 0 2 0:00");
        becomes(Edges.turning(2, 127), x -> x.makes(0, 2), 254, "2 0 2 0:" + "0".repeat(254));
        becomes(Edges.turning(2, 128), x -> x.makes(0, 2), 256, "2 0 2 0:" + "0".repeat(256));
        becomes("bits 3 start 5:01;", x -> x.makes(0, 2), 4, "3 0 3 5:0101");
    }

    @Says("(-2, if these would be more than 256).")
    static void p28_twiceWouldBeMoreThan256() {
        leaves(Edges.turning(2, 129), x -> x.makes(0, 2), -2);
        leaves(Edges.turning(2, 255), x -> x.makes(0, 2), -2);
        leaves(Edges.turning(2, 256), x -> x.makes(0, 2), -2);
    }

    static void p28_twiceNothingIsNothing() {
        leaves("bits 3 start 5:;", x -> x.makes(0, 2), 0);
    }

    static void p28_theSameAgainIsNoAct() {
        leaves(Edges.GRAY3, x -> x.makes(0, 0), 8);
        leaves(Edges.LADDER3, x -> x.makes(0, 1), 6);
        leaves("bits 1 start 1:00;", x -> x.makes(0, 1), 2);
    }

    // ---- promise 29

    static void p29_needsAListAheadOfAll() {
        for (int law = 0; law < 4; law++) {
            int by = law;
            Edges.needsList((x, slot) -> x.finds(slot, by, 1));
        }
    }

    static void p29_lawsThatAreNone() {
        refuses("finds", (x, law) -> x.finds(0, law, 100), Edges.LEAST, -1, 4, Edges.MOST);
    }

    @Says("-2 (tries 1 .. 50000).")
    static void p29_triesThatAreNone() {
        for (int law = 0; law < 4; law++) {
            int by = law;
            refuses("finds", (x, tries) -> x.finds(0, by, tries), NO_TRIES);
        }
        becomes("bits 1 start 0:;", x -> x.finds(0, 0, 1), 1, "1 0 1 0:0");
        becomes("bits 1 start 0:;", x -> x.finds(0, 0, 50000), 1, "1 0 1 0:0");
    }

    @Says("ahead of NONE, -3,")
    static void p29_wrongNumbersAheadOfNoneAndTooLong() {
        String outside = "bits 2 levels 0 to 1 start 3:;";
        leaves(outside, x -> x.finds(0, 0, 0), -2);
        leaves(outside, x -> x.finds(0, 0, 50001), -2);
        leaves(outside, x -> x.finds(0, 4, 5), -2);
        leaves(outside, x -> x.finds(0, -1, 5), -2);
    }

    static void p29_aStartThatIsNotOfTheScope() {
        for (int law = 0; law < 4; law++) {
            int by = law;
            leaves("bits 2 levels 0 to 1 start 3:01;", x -> x.finds(0, by, 50000), -1);
            leaves("bits 2 levels 1 to 2 start 0:01;", x -> x.finds(0, by, 1), -1);
        }
    }

    @Says("(LAWS 1, 3: a SCOPE of one WORD: none.)")
    static void p29_aScopeOfOneWord() {
        leaves("bits 4 levels 0 to 0 start 0:00;", x -> x.finds(0, 1, 1), -1);
        leaves("bits 4 levels 0 to 0 start 0:00;", x -> x.finds(0, 3, 1), -1);
        leaves("bits 1 levels 1 to 1 start 1:;", x -> x.finds(0, 1, 50000), -1);
        leaves("bits 1 levels 1 to 1 start 1:;", x -> x.finds(0, 3, 50000), -1);
        becomes("bits 4 levels 0 to 0 start 0:00;", x -> x.finds(0, 0, 1), 0, "4 0 0 0:");
        becomes("bits 4 levels 4 to 4 start 15:00;", x -> x.finds(0, 2, 1), 0, "4 4 4 15:");
        leaves("bits 4 levels 0 to 0 start 0:;", x -> x.finds(0, 0, 1), 0);
    }

    @Says("Each STEP taken counts (not that back to START);")
    static void p29_aScopeOfTwoWordsAndTheStepBackDoesNotCount() {
        becomes("bits 1 start 1:;", x -> x.finds(0, 0, 1), 1, "1 0 1 1:0");
        becomes("bits 1 start 1:;", x -> x.finds(0, 1, 1), 2, "1 0 1 1:00");
        becomes("bits 1 start 1:;", x -> x.finds(0, 2, 1), 1, "1 0 1 1:0");
        becomes("bits 1 start 1:;", x -> x.finds(0, 3, 1), 2, "1 0 1 1:00");
    }

    @Says("TOO LONG: more than told.")
    static void p29_justEnoughTriesAndOneFewer() {
        for (int law = 0; law < 4; law++) {
            int by = law;
            boolean loop = law % 2 == 1;
            String text = "bits 2 start 0:;";
            leaves(text, x -> x.finds(0, by, 2), -3);
            String found = loop ? "2 0 2 0:0101" : "2 0 2 0:010";
            becomes(text, x -> x.finds(0, by, 3), loop ? 4 : 3, found);
            becomes(text, x -> x.finds(0, by, 4), loop ? 4 : 3, found);
        }
        leaves("bits 8 start 77:;", x -> x.finds(0, 0, 254), -3);
        Edges.due("255", Edges.with("bits 8 start 77:;").finds(0, 0, 255), 255);
        leaves("bits 8 start 77:;", x -> x.finds(0, 1, 254), -3);
        Edges.due("255", Edges.with("bits 8 start 77:;").finds(0, 1, 255), 256);
    }

    static void p29_thereIsNoneAndTooLongToKnow() {
        // two steps are taken, one to each word beside the start, and both are dead ends
        for (int law = 0; law < 4; law++) {
            int by = law;
            leaves("bits 2 levels 0 to 1 start 0:1;", x -> x.finds(0, by, 1), -3);
            leaves("bits 2 levels 0 to 1 start 0:1;", x -> x.finds(0, by, 2), -1);
            leaves("bits 2 levels 0 to 1 start 0:1;", x -> x.finds(0, by, 3), -1);
        }
        // no step can be taken at all
        leaves("bits 3 levels 1 to 1 start 1:0;", x -> x.finds(0, 0, 1), -1);
        // a cube has 111 ways from a corner that meet no corner twice, and no opposite round
        leaves("bits 3 start 0:;", x -> x.finds(0, 3, 110), -3);
        leaves("bits 3 start 0:;", x -> x.finds(0, 3, 111), -1);
    }

    static void p29_allWordsButNoStepBackToTheStart() {
        String text = "bits 2 levels 1 to 2 start 1:;";
        leaves(text, x -> x.finds(0, 1, 1), -3);
        leaves(text, x -> x.finds(0, 1, 2), -1);
        leaves(text, x -> x.finds(0, 3, 2), -1);
        leaves(text, x -> x.finds(0, 0, 1), -3);
        becomes(text, x -> x.finds(0, 0, 2), 2, "2 1 2 1:10");
        becomes(text, x -> x.finds(0, 2, 2), 2, "2 1 2 1:10");
    }

    static void p29_monotoneIsLookedAtFromStepToStep() {
        // from the top no step may go down to 0: 3 steps, and 6 ways of 5 more around
        leaves("bits 3 start 7:;", x -> x.finds(0, 2, 32), -3);
        leaves("bits 3 start 7:;", x -> x.finds(0, 2, 33), -1);
        becomes("bits 3 start 0:;", x -> x.finds(0, 2, 7), 7, "3 0 3 0:0102010");
        leaves("bits 3 start 5:;", x -> x.finds(0, 2, 14), -3);
        becomes("bits 3 start 5:;", x -> x.finds(0, 2, 15), 7, "3 0 3 5:0121012");
        leaves("bits 4 start 0:;", x -> x.finds(0, 2, 23), -3);
        becomes("bits 4 start 0:;", x -> x.finds(0, 2, 24), 15, "4 0 4 0:010201030201020");
        leaves("bits 4 start 3:;", x -> x.finds(0, 2, 66), -3);
        becomes("bits 4 start 3:;", x -> x.finds(0, 2, 67), 15, "4 0 4 3:010201310201023");
        leaves("bits 4 start 15:;", x -> x.finds(0, 2, 195), -3);
        leaves("bits 4 start 15:;", x -> x.finds(0, 2, 196), -1);
    }

    static void p29_asIfThereWereNoSearchAhead() {
        for (int law = 0; law < 4; law++) {
            OneAtATime x = Edges.with("bits 2 levels 0 to 1 start 0:;", "bits 4 start 1:;",
                "bits 2 start 0:;");
            Edges.due("none", x.finds(0, law, 50), -1);
            Edges.due("too long", x.finds(1, law, 9), -3);
            Edges.due("none such", x.tracks(1, 4, 1, 50), -1);
            Edges.due("just enough", x.finds(2, law, 3), law % 2 == 1 ? 4 : 3);
            Edges.due("just enough again", x.finds(2, law, 3), law % 2 == 1 ? 4 : 3);
        }
    }

    static void p29_theSameAgainIsNoAct() {
        leaves(Edges.GRAY3, x -> x.finds(0, 1, 7), 8);
        leaves("bits 3 start 0:0102010;", x -> x.finds(0, 0, 7), 7);
    }

    // ---- promise 30

    static void p30_needsAListAheadOfAll() {
        Edges.needsList((x, slot) -> x.extend(slot, 0L));
    }

    private static void extendLeaves(String text, long want, long... cuts) {
        for (long some : cuts) {
            leaves(text, x -> x.extend(0, some), want);
        }
    }

    static void p30_cutsOfTheLeastLoop() {
        becomes("bits 1 start 1:00;", x -> x.extend(0, 0L), 3, "3 0 3 1:01020102");
        extendLeaves("bits 1 start 1:00;", -2, 1L, 2L, 3L, -1L, Long.MIN_VALUE, Long.MAX_VALUE);
    }

    @Says("-2: cuts at no places (0 .. STEPS less 2),")
    static void p30_cutsBehindTheFirstPlaceTheLastButOneAndBeyond() {
        String text = "bits 2 start 0:0101;";
        becomes(text, x -> x.extend(0, 0L), 4, "4 0 4 0:" + "01020103010" + "2" + "010" + "3");
        becomes(text, x -> x.extend(0, 3L), 4, "4 0 4 0:" + "23032102030" + "2" + "010" + "3");
        becomes(text, x -> x.extend(0, 5L), 4, "4 0 4 0:" + "23013121023" + "2" + "010" + "3");
        becomes(text, x -> x.extend(0, 6L), 4, "4 0 4 0:" + "02030132023" + "2" + "010" + "3");
        extendLeaves(text, -2, 9L, 10L, 12L, 15L, 17L, 1L | 1L << 32, 1L | 1L << 63, -1L);
    }

    @Says("or not evenly many.")
    static void p30_cutsNotEvenlyMany() {
        extendLeaves("bits 2 start 0:0101;", -2, 1L, 2L, 4L, 7L);
    }

    static void p30_64StepsAre63PlacesToCutBehind() {
        String text = Edges.reflected(6);
        for (long cuts : new long[] {0L, 1L | 1L << 62, (1L << 62) - 1, 3L << 61}) {
            OneAtATime x = Edges.with(text);
            Edges.due("extend", x.extend(0, cuts), 8);
            Edges.due("steps", x.look(0, 4), 256);
            Edges.due("a loop", x.is(0, 0), 1);
            Edges.due("full", x.is(0, 2), 1);
            Edges.due("B", x.look(0, 2), 8);
        }
        extendLeaves(text, -2, 1L | 1L << 63, 1L << 62, (1L << 63) - 1, -1L, 3L << 62);
    }

    @Says("-5: N is above 6;")
    static void p30_aboveSixBits() {
        Edges.due("5", Edges.with(Edges.reflected(5)).extend(0, 0L), 7);
        Edges.due("6", Edges.with(Edges.reflected(6)).extend(0, 0L), 8);
        extendLeaves(Edges.reflected(7), -5, 0L, 3L, 1L | 1L << 63, -1L);
        extendLeaves(Edges.reflected(8), -5, 0L, 3L, 1L | 1L << 63, -1L);
    }

    @Says("-6: it is no FULL LOOP with A 0, B N;")
    static void p30_noFullLoopOfAllLevels() {
        String[] texts = {
            "bits 2 start 0:;", "bits 2 start 0:010;", "bits 2 start 0:00;",
            "bits 2 levels 0 to 1 start 0:0101;", "bits 2 levels 1 to 2 start 0:0101;",
            "bits 3 levels 1 to 2 start 1:102102;", "bits 2 start 0:01010101;", Edges.LADDER3,
            Edges.turning(6, 64),
        };
        for (String text : texts) {
            extendLeaves(text, -6, 0L);
        }
    }

    @Says("-5, -6.")
    static void p30_wrongCutsAheadOfAboveSixAndNoLoop() {
        extendLeaves(Edges.reflected(7), -2, 1L, 1L << 63);
        extendLeaves("bits 7 start 0:;", -2, 1L, 3L);
        extendLeaves("bits 2 start 0:;", -2, 1L, 3L);
        extendLeaves("bits 2 start 0:0;", -2, 1L, 3L);
        extendLeaves("bits 2 start 0:00;", -2, 1L, 3L);
        extendLeaves("bits 2 start 0:000;", -2, 1L, 5L, 6L);
        extendLeaves("bits 2 start 0:000;", -6, 3L);
        extendLeaves(Edges.turning(6, 63), -2, 1L | 1L << 62);
        extendLeaves(Edges.turning(6, 64), -6, 1L | 1L << 62);
        extendLeaves(Edges.turning(6, 64), -2, 1L | 1L << 63);
        extendLeaves(Edges.turning(6, 65), -6, 1L | 1L << 63);
        extendLeaves(Edges.turning(6, 66), -6, 1L | 1L << 63);
    }

    // ---- promise 34

    static void p34_needsAListAheadOfAll() {
        Edges.needsList((x, slot) -> x.tracks(slot, 2, 1, 1));
    }

    @Says("tries 50000 at most;")
    static void p34_triesThatAreNone() {
        refuses("tries", (x, tries) -> x.tracks(0, 2, 1, tries), NO_TRIES);
        leaves("bits 3 start 1:;", x -> x.tracks(0, 2, 1, 1), -3);
        Edges.due("50000", Edges.with("bits 3 start 1:;").tracks(0, 2, 1, 50000), 6);
    }

    @Says("p, tries 1 and more,")
    static void p34_pBelowOne() {
        refuses("p", (x, p) -> x.tracks(0, p, 1, 1), Edges.LEAST, -1, 0);
        leaves("bits 3 start 1:;", x -> x.tracks(0, 1, 1, 1), -1);
    }

    @Says("-2 (N 2 and more;")
    static void p34_oneBitAlone() {
        leaves("bits 1 start 1:;", x -> x.tracks(0, 1, 1, 1), -2);
        leaves("bits 1 start 1:;", x -> x.tracks(0, 1, 0, 1), -2);
        leaves("bits 2 start 1:;", x -> x.tracks(0, 1, 1, 1), -1);
    }

    @Says("r 1 .. N less 1, without a divisor above 1 in common with N).")
    static void p34_rFromOneToNLessOneWithoutADivisorInCommon() {
        int[][] good = {
            {1}, {1, 2}, {1, 3}, {1, 2, 3, 4}, {1, 5}, {1, 2, 3, 4, 5, 6}, {1, 3, 5, 7},
        };
        for (int n = 2; n <= 8; n++) {
            for (int r = -1; r <= n + 1; r++) {
                boolean told = false;
                for (int one : good[n - 2]) {
                    told = told || one == r;
                }
                // 0 is itself rolled, so that there are none such
                int by = r;
                leaves("bits " + n + " start 0:;", x -> x.tracks(0, 2, by, 1), told ? -1 : -2);
            }
            for (int r : new int[] {Edges.LEAST, Edges.MOST, n * 1001 + 1}) {
                leaves("bits " + n + " start 0:;", x -> x.tracks(0, 2, r, 1), -2);
            }
        }
    }

    @Says("-5: N times p is above 256;")
    static void p34_nTimesPAbove256() {
        for (int n = 2; n <= 8; n++) {
            int most = 256 / n;
            int wrapping = Edges.MOST / n * 2;
            String text = "bits " + n + " start 0:;";
            leaves(text, x -> x.tracks(0, most, 1, 1), -1);
            leaves(text, x -> x.tracks(0, most + 1, 1, 1), -5);
            leaves(text, x -> x.tracks(0, Edges.MOST, 1, 1), -5);
            // n times p is a small number again when it wraps
            leaves(text, x -> x.tracks(0, 1 << 30, 1, 1), -5);
            leaves(text, x -> x.tracks(0, wrapping, 1, 1), -5);
        }
    }

    static void p34_wrongNumbersAheadOfAbove256() {
        String text = "bits 3 start 0:;";
        leaves(text, x -> x.tracks(0, 86, 0, 1), -2);
        leaves(text, x -> x.tracks(0, 86, 3, 1), -2);
        leaves(text, x -> x.tracks(0, 86, 1, 0), -2);
        leaves(text, x -> x.tracks(0, 86, 1, 50001), -2);
        leaves("bits 1 start 0:;", x -> x.tracks(0, 300, 1, 1), -2);
    }

    @Says("Each STEP taken counts, the last one, too;")
    static void p34_justEnoughTriesAndOneFewer() {
        String text = "bits 3 start 1:;";
        becomes(text, x -> x.tracks(0, 2, 1, 2), 6, "3 0 3 1:102102");
        becomes(text, x -> x.tracks(0, 2, 1, 3), 6, "3 0 3 1:102102");
        // 3 is tried ahead of 5, and has no step to 4
        leaves(text, x -> x.tracks(0, 2, 2, 2), -3);
        becomes(text, x -> x.tracks(0, 2, 2, 3), 6, "3 0 3 1:201201");
    }

    @Says("a STEP to START rolled ahead of the last is none.")
    static void p34_thereAreNoneSuchAndTooLongToKnow() {
        // 3 and 5 are tried; from both there is but the start, it rolled, and 7, itself rolled
        leaves("bits 3 start 1:;", x -> x.tracks(0, 4, 1, 1), -3);
        leaves("bits 3 start 1:;", x -> x.tracks(0, 4, 1, 2), -1);
        // of the words with two bits of four, 3 rolled is all that is not itself rolled: from 3 to
        // 7 and 11, from 9 to 11 and 13, and there it ends
        leaves("bits 4 start 1:;", x -> x.tracks(0, 4, 1, 5), -3);
        leaves("bits 4 start 1:;", x -> x.tracks(0, 4, 1, 6), -1);
    }

    @Says("from START on p STEPS, the least bit first,")
    static void p34_theLeastBitFirst() {
        // 6 to 7 to 3 is tried first, and is the one
        leaves("bits 4 start 6:;", x -> x.tracks(0, 2, 3, 1), -3);
        becomes("bits 4 start 6:;", x -> x.tracks(0, 2, 3, 2), 8, "4 0 4 6:02312013");
    }

    static void p34_asIfThereWereNoSearchAhead() {
        OneAtATime x = Edges.with("bits 4 start 1:;", "bits 4 start 6:;",
            "bits 4 levels 2 to 2 start 6:;");
        Edges.due("none such", x.tracks(0, 4, 1, 50), -1);
        Edges.due("none", x.finds(2, 0, 50), -1);
        Edges.due("too long", x.finds(0, 1, 9), -3);
        Edges.due("just enough", x.tracks(1, 2, 3, 2), 8);
        Edges.due("just enough again", x.tracks(1, 2, 3, 2), 8);
    }

    @Says("(START, too) is another one of them, or itself, rolled")
    static void p34_aStartThatIsItselfRolled() {
        leaves("bits 3 start 0:;", x -> x.tracks(0, 2, 1, 50000), -1);
        leaves("bits 3 start 7:;", x -> x.tracks(0, 2, 1, 50000), -1);
        leaves("bits 4 start 5:01;", x -> x.tracks(0, 2, 1, 50000), -1);
        leaves("bits 6 start 36:;", x -> x.tracks(0, 2, 1, 50000), -1);
        leaves("bits 6 start 21:;", x -> x.tracks(0, 2, 1, 50000), -1);
        leaves("bits 8 start 85:;", x -> x.tracks(0, 2, 1, 50000), -1);
    }

    static void p34_theSameAgainIsNoAct() {
        leaves("bits 3 start 1:102102;", x -> x.tracks(0, 2, 1, 2), 6);
    }

    // ---- promise 35

    static void p35_needsTwoLists() {
        Edges.needsList((x, slot) -> x.product(slot, 0, 1));
        Edges.needsList((x, slot) -> x.product(0, slot, 1));
    }

    @Says("-2: there are none such.")
    static void p35_noSuchSlotToComeInto() {
        refuses("to", (x, to) -> x.product(0, 2, to), Edges.LEAST, -1, 3, Edges.MOST);
        for (int to = 0; to < 3; to++) {
            int into = to;
            Edges.isAct("into " + to, Edges::rich, x -> x.product(2, 0, into), 44);
        }
    }

    @Says("-5: N would be above 8,")
    static void p35_bitsAbove8() {
        int[][] good = {{1, 7}, {7, 1}, {4, 4}, {3, 5}};
        int[][] tooMany = {{1, 8}, {8, 1}, {4, 5}, {5, 4}, {8, 8}};
        for (int[] bits : good) {
            OneAtATime x = Edges.with(Edges.turning(bits[0], 0), Edges.turning(bits[1], 0));
            Edges.due("product", x.product(0, 1, 2), 0);
            Edges.dueText("list", Edges.list(x, 2), "8 0 8 0:");
        }
        for (int[] bits : tooMany) {
            Edges.stays("product",
                Edges.lists(Edges.turning(bits[0], 0), Edges.turning(bits[1], 0)),
                x -> x.product(0, 1, 2), -5);
        }
    }

    @Says("STEPS above 256;")
    static void p35_stepsAbove256() {
        int[][] good = {{0, 256, 256}, {256, 0, 256}, {1, 127, 255}, {127, 1, 255}, {15, 15, 255},
            {0, 255, 255}, {255, 0, 255}, {0, 0, 0}};
        int[][] tooMany = {{1, 128}, {128, 1}, {2, 85}, {85, 2}, {15, 16}, {16, 15}, {256, 1},
            {1, 256}, {256, 256}};
        for (int[] sizes : good) {
            OneAtATime x = Edges.with(Edges.turning(4, sizes[0]), Edges.turning(4, sizes[1]));
            Edges.due("product", x.product(0, 1, 2), sizes[2]);
            Edges.due("steps", x.look(2, 4), sizes[2]);
        }
        for (int[] sizes : tooMany) {
            Edges.stays(sizes[0] + " and " + sizes[1],
                Edges.lists(Edges.turning(4, sizes[0]), Edges.turning(4, sizes[1])),
                x -> x.product(0, 1, 2), -5);
        }
    }

    static void p35_noSuchSlotAheadOfTooMuch() {
        Edges.Setup wide = Edges.lists(Edges.reflected(8));
        Edges.stays("to", wide, x -> x.product(0, 0, 3), -2);
        Edges.stays("to", wide, x -> x.product(0, 0, -1), -2);
        Edges.stays("other", wide, x -> x.product(0, 1, 0), -2);
        Edges.stays("one", wide, x -> x.product(1, 0, 0), -2);
        Edges.stays("too much", wide, x -> x.product(0, 0, 0), -5);
    }

    @Says("PRODUCT: bits of the other LIST lie behind those of the one (by N more);")
    static void p35_withoutSteps() {
        OneAtATime x = Edges.with("bits 2 start 3:;", "bits 3 start 5:201;");
        Edges.due("of the other alone", x.product(0, 1, 2), 3);
        Edges.dueText("list", Edges.list(x, 2), "5 0 5 23:423");
        Edges.due("of the one alone", x.product(1, 0, 2), 3);
        Edges.dueText("list", Edges.list(x, 2), "5 0 5 29:201");
    }

    @Says({"all STEPS of the one, a STEP of the other one, all STEPS of the one back, the next STEP"
        + " of the other one, and so on, at the end all of the one once more (on or back)."})
    static void p35_onAndBackInTurn() {
        OneAtATime x = Edges.with("bits 2 start 0:01;", "bits 1 start 0:0;");
        for (int steps = 1; steps <= 4; steps++) {
            String[] want = {"01210", "01210201", "01210201210", "01210201210201"};
            Edges.due("product", x.product(0, 1, 2), 2 + 3 * steps);
            Edges.dueText("steps", Edges.steps(x, 2), want[steps - 1]);
            x.adds(1, 0);
        }
    }

    @Says("A is 0, B is N.")
    static void p35_theLevelsBecomeAllAndTheStartIsBoth() {
        OneAtATime x = Edges.with("bits 4 levels 2 to 3 start 15:0;",
            "bits 4 levels 1 to 1 start 15:3;");
        Edges.due("product", x.product(0, 1, 2), 3);
        Edges.dueText("list", Edges.list(x, 2), "8 0 8 255:070");
    }

    static void p35_theSameAgainIsNoAct() {
        Edges.stays("product", x -> {
            TapeWriter.tells(x, 0, "bits 2 start 1:0;");
            TapeWriter.tells(x, 1, "bits 2 start 2:1;");
            x.product(0, 1, 2);
        }, x -> x.product(0, 1, 2), 3);
    }

    // ---- promise 36

    static void p36_needsAListAheadOfAll() {
        Edges.needsList((x, slot) -> x.twists(slot, 0, 3));
    }

    @Says("-2: there are none such.")
    static void p36_placesThatAreNone() {
        int[][] places = {
            {-1, 3}, {Edges.LEAST, 3}, {-1, -1}, {0, 0}, {3, 3}, {4, 3}, {7, 0}, {0, 8}, {7, 8},
            {0, 9}, {8, 8}, {0, Edges.MOST}, {Edges.MOST, Edges.MOST}, {Edges.MOST, 3},
            {Edges.LEAST, Edges.MOST}, {0, -1}, {0, Edges.LEAST},
        };
        for (int[] two : places) {
            leaves(Edges.GRAY3, x -> x.twists(0, two[0], two[1]), -2);
        }
    }

    static void p36_fewSteps() {
        leaves("bits 3 start 0:;", x -> x.twists(0, 0, 0), -2);
        leaves("bits 3 start 0:;", x -> x.twists(0, 0, 1), -2);
        leaves("bits 3 start 0:0;", x -> x.twists(0, 0, 1), -2);
        leaves("bits 3 start 0:01;", x -> x.twists(0, 0, 1), 2);
        leaves("bits 3 start 0:01;", x -> x.twists(0, 0, 2), -2);
    }

    static void p36_placesNextToEachOtherLeaveItAsItWas() {
        for (int i = 0; i < 7; i++) {
            int at = i;
            leaves(Edges.GRAY3, x -> x.twists(0, at, at + 1), 8);
        }
    }

    static void p36_theFirstAndTheLastPlaces() {
        becomes(Edges.GRAY3, x -> x.twists(0, 0, 7), 8, "3 0 3 0:20102010");
        // places 0 and 3, 1 and 4 of 0 1 3 2 0 1
        becomes("bits 2 start 0:01010;", x -> x.twists(0, 0, 3), 5, "2 0 2 0:10100");
        becomes("bits 2 start 0:01010;", x -> x.twists(0, 1, 4), 5, "2 0 2 0:00101");
        // of 256 steps all but the first and the last are told back
        String all = Edges.reflected(8);
        String inner = all.substring(all.indexOf(':') + 2, all.length() - 2);
        becomes(all, x -> x.twists(0, 0, 255), 256,
            "8 0 8 0:7" + new StringBuilder(inner).reverse() + "0");
    }

    @Says("-6: these have not one bit unlike;")
    static void p36_notOneBitUnlike() {
        // both pairs, the first alone, the second alone
        leaves(Edges.GRAY3, x -> x.twists(0, 0, 2), -6);
        leaves(Edges.GRAY3, x -> x.twists(0, 0, 3), -6);
        leaves(Edges.GRAY3, x -> x.twists(0, 1, 6), -6);
        leaves(Edges.GRAY3, x -> x.twists(0, 1, 4), -6);
        // no bit unlike
        leaves("bits 2 start 0:0000;", x -> x.twists(0, 0, 2), -6);
    }

    // ---- promise 38

    static void p38_needsAListAheadOfAll() {
        Edges.needsList((x, slot) -> x.detour(slot, 0, 1));
    }

    @Says("-2: there are none such.")
    static void p38_stepsAndBitsThatAreNone() {
        refuses("step", (x, i) -> x.detour(0, i, 0), Edges.LEAST, -1, 8, Edges.MOST);
        refuses("bit", (x, bit) -> x.detour(0, 0, bit), Edges.LEAST, -1, 3, Edges.MOST);
        leaves("bits 3 start 0:;", x -> x.detour(0, 0, 0), -2);
    }

    static void p38_theFirstStepAndTheLast() {
        becomes("bits 3 start 5:012;", x -> x.detour(0, 0, 2), 5, "3 0 3 5:20212");
        becomes("bits 3 start 5:012;", x -> x.detour(0, 2, 0), 5, "3 0 3 5:01020");
        becomes("bits 1 start 0:0;", x -> x.detour(0, 0, 0), 3, "1 0 1 0:000");
    }

    @Says("-5: there would be more than 256;")
    static void p38_moreThan256() {
        Edges.due("253", Edges.with(Edges.turning(1, 253)).detour(0, 0, 0), 255);
        becomes(Edges.turning(2, 254), x -> x.detour(0, 253, 1), 256,
            "2 0 2 0:" + "0".repeat(253) + "101");
        leaves(Edges.turning(2, 255), x -> x.detour(0, 0, 1), -5);
        leaves(Edges.turning(2, 256), x -> x.detour(0, 255, 1), -5);
    }

    static void p38_wrongNumbersAheadOfMoreThan256() {
        leaves(Edges.turning(2, 256), x -> x.detour(0, 256, 1), -2);
        leaves(Edges.turning(2, 256), x -> x.detour(0, -1, 1), -2);
        leaves(Edges.turning(2, 256), x -> x.detour(0, 0, 2), -2);
        leaves(Edges.turning(2, 256), x -> x.detour(0, 0, -1), -2);
    }

    // ---- promise 39

    @Says("-2.")
    static void p39_needsAList() {
        Edges.needsList((x, slot) -> x.mirror(slot));
    }

    static void p39_oneBitTwoAndEight() {
        leaves("bits 1 start 1:0;", x -> x.mirror(0), 1);
        becomes("bits 2 levels 1 to 1 start 1:01;", x -> x.mirror(0), 2, "2 1 1 2:10");
        becomes("bits 8 start 1:01234567;", x -> x.mirror(0), 128, "8 0 8 128:76543210");
        becomes("bits 8 start 208:;", x -> x.mirror(0), 11, "8 0 8 11:");
    }

    static void p39_aMiddleBitStays() {
        leaves("bits 3 start 5:111;", x -> x.mirror(0), 5);
        leaves("bits 3 start 2:1;", x -> x.mirror(0), 2);
        becomes("bits 3 start 2:0;", x -> x.mirror(0), 2, "3 0 3 2:2");
        becomes("bits 3 start 1:1;", x -> x.mirror(0), 4, "3 0 3 4:1");
    }

    // ---- promise 40

    static void p40_needsAList() {
        Edges.needsList((x, slot) -> x.starts(slot, 3));
    }

    @Says("-2.")
    static void p40_wordsThatAreNone() {
        refuses("starts", (x, word) -> x.starts(0, word), Edges.LEAST, -1, 8, Edges.MOST);
        for (int n = 1; n <= 8; n++) {
            int last = (1 << n) - 1;
            String text = "bits " + n + " start 0:0;";
            becomes(text, x -> x.starts(0, last), 0, n + " 0 " + n + " " + last + ":0");
            leaves(text, x -> x.starts(0, last + 1), -2);
        }
    }

    static void p40_theStartItHasIsNoAct() {
        leaves("bits 3 start 5:01;", x -> x.starts(0, 5), 5);
        leaves("bits 3 start 0:;", x -> x.starts(0, 0), 0);
    }

    static void p40_needNotBeOfTheScope() {
        becomes("bits 3 levels 1 to 1 start 1:0;", x -> x.starts(0, 7), 1, "3 1 1 7:0");
    }

    // ---- promise 41

    static void p41_needsAList() {
        Edges.needsList((x, slot) -> x.swaps(slot, 0, 1));
    }

    @Says("-2.")
    static void p41_bitsThatAreNone() {
        refuses("a", (x, bit) -> x.swaps(0, bit, 0), Edges.LEAST, -1, 3, Edges.MOST);
        refuses("b", (x, bit) -> x.swaps(0, 0, bit), Edges.LEAST, -1, 3, Edges.MOST);
        refuses("both", (x, bit) -> x.swaps(0, bit, bit), -1, 3);
    }

    static void p41_theFirstBitAndTheLast() {
        becomes("bits 8 start 1:0700;", x -> x.swaps(0, 0, 7), 4, "8 0 8 128:7077");
        becomes("bits 8 start 1:0700;", x -> x.swaps(0, 7, 0), 4, "8 0 8 128:7077");
        becomes("bits 8 start 129:1;", x -> x.swaps(0, 1, 7), 1, "8 0 8 3:7");
    }

    static void p41_oneBitWithItself() {
        for (int bit = 0; bit < 3; bit++) {
            int one = bit;
            leaves(Edges.GRAY3, x -> x.swaps(0, one, one), 0);
        }
        leaves("bits 1 start 1:0;", x -> x.swaps(0, 0, 0), 0);
    }

    static void p41_noStepIsAnotherOne() {
        leaves("bits 3 start 0:2;", x -> x.swaps(0, 0, 1), 0);
        leaves("bits 3 start 3:2;", x -> x.swaps(0, 0, 1), 0);
        becomes("bits 3 start 1:2;", x -> x.swaps(0, 0, 1), 0, "3 0 3 2:2");
    }

    static void p41_everyStepIsAnotherOne() {
        becomes(Edges.turning(2, 256), x -> x.swaps(0, 0, 1), 256,
            "2 0 2 0:" + "1".repeat(256));
    }

    // ---- promise 42

    @Says("-2.")
    static void p42_needsAList() {
        Edges.needsList((x, slot) -> x.reverse(slot));
    }

    static void p42_noStepsAndTheSameBothWays() {
        leaves("bits 3 start 5:;", x -> x.reverse(0), 5);
        leaves("bits 2 start 1:0110;", x -> x.reverse(0), 1);
        leaves(Edges.turning(1, 256), x -> x.reverse(0), 0);
    }

    static void p42_oneStepAnd256() {
        becomes("bits 3 start 5:0;", x -> x.reverse(0), 4, "3 0 3 4:0");
        becomes("bits 2 start 0:" + "0".repeat(255) + "1;", x -> x.reverse(0), 3,
            "2 0 2 3:1" + "0".repeat(255));
        becomes("bits 2 levels 1 to 1 start 0:0101;", x -> x.reverse(0), 0, "2 1 1 0:1010");
    }

    // ---- promise 43

    static void p43_needsAListAheadOfAll() {
        Edges.needsList((x, slot) -> x.rolls(slot, 1));
    }

    @Says("-2.")
    static void p43_placesThatAreNone() {
        refuses("place", (x, place) -> x.rolls(0, place), Edges.LEAST, -1, 8, 9, Edges.MOST);
        leaves("bits 3 start 0:;", x -> x.rolls(0, 0), -2);
    }

    static void p43_theFirstPlaceAndTheLast() {
        leaves(Edges.GRAY3, x -> x.rolls(0, 0), 0);
        becomes(Edges.GRAY3, x -> x.rolls(0, 1), 1, "3 0 3 1:10201020");
        becomes(Edges.GRAY3, x -> x.rolls(0, 7), 4, "3 0 3 4:20102010");
        becomes("bits 1 start 0:00;", x -> x.rolls(0, 1), 1, "1 0 1 1:00");
        becomes(Edges.turning(1, 256), x -> x.rolls(0, 255), 1, "1 0 1 1:" + "0".repeat(256));
        leaves(Edges.turning(1, 256), x -> x.rolls(0, 256), -2);
    }

    static void p43_aPlaceFromWhichItIsTheSameIsNoAct() {
        leaves("bits 1 start 0:0000;", x -> x.rolls(0, 2), 0);
    }

    @Says("-6: it is no LOOP;")
    static void p43_noLoop() {
        leaves("bits 3 start 0:01;", x -> x.rolls(0, 0), -6);
        leaves("bits 3 start 0:01;", x -> x.rolls(0, 1), -6);
    }

    static void p43_noSuchPlaceAheadOfNoLoop() {
        leaves("bits 3 start 0:01;", x -> x.rolls(0, 2), -2);
        leaves("bits 3 start 0:01;", x -> x.rolls(0, -1), -2);
    }

    // ---- promise 44

    static void p44_needsAListAheadOfAll() {
        Edges.needsList((x, slot) -> x.adds(slot, 1));
    }

    @Says("-2.")
    static void p44_bitsThatAreNone() {
        refuses("bit", (x, bit) -> x.adds(0, bit), Edges.LEAST, -1, 3, Edges.MOST);
        for (int n = 1; n <= 8; n++) {
            String text = "bits " + n + " start 0:;";
            int last = n - 1;
            becomes(text, x -> x.adds(0, last), 1 << last, n + " 0 " + n + " 0:" + last);
            leaves(text, x -> x.adds(0, last + 1), -2);
        }
    }

    @Says("-5: there are 256;")
    static void p44_thereAre256() {
        Edges.due("254", Edges.with(Edges.turning(2, 254)).adds(0, 1), 2);
        becomes(Edges.turning(2, 255), x -> x.adds(0, 1), 3,
            "2 0 2 0:" + "0".repeat(255) + "1");
        leaves(Edges.turning(2, 256), x -> x.adds(0, 1), -5);
    }

    static void p44_noSuchBitAheadOf256() {
        leaves(Edges.turning(2, 256), x -> x.adds(0, 2), -2);
        leaves(Edges.turning(2, 256), x -> x.adds(0, -1), -2);
    }

    static void p44_needNotComeToAWordOfTheScope() {
        becomes("bits 3 levels 0 to 0 start 0:;", x -> x.adds(0, 0), 1, "3 0 0 0:0");
    }

    // ---- promise 45

    static void p45_needsAList() {
        Edges.needsList((x, slot) -> x.cuts(slot, 1));
    }

    @Says("-2 (n 1 .. as many as there are).")
    static void p45_fewerThanOneAndMoreThanThereAre() {
        refuses("cuts", (x, n) -> x.cuts(0, n), Edges.LEAST, -1, 0, 9, Edges.MOST);
        leaves("bits 3 start 0:;", x -> x.cuts(0, 0), -2);
        leaves("bits 3 start 0:;", x -> x.cuts(0, 1), -2);
        leaves(Edges.turning(1, 256), x -> x.cuts(0, 257), -2);
    }

    static void p45_oneAllAndAllButOne() {
        becomes("bits 3 start 5:012;", x -> x.cuts(0, 1), 2, "3 0 3 5:01");
        becomes("bits 3 start 5:012;", x -> x.cuts(0, 2), 1, "3 0 3 5:0");
        becomes("bits 3 start 5:012;", x -> x.cuts(0, 3), 0, "3 0 3 5:");
        becomes(Edges.turning(1, 256), x -> x.cuts(0, 256), 0, "1 0 1 0:");
    }

    // ---- promise 47

    @Says("-2: no such SLOT.")
    static void p47_noSuchSlot() {
        for (int slot : new int[] {Edges.LEAST, -1, 3, Edges.MOST}) {
            Edges.stays("drops " + slot, x -> x.drops(slot), -2);
        }
    }

    static void p47_aSlotWithoutAListIsNoAct() {
        Edges.stays("drops", x -> x.drops(1), 0);
        for (int slot = 0; slot < 3; slot++) {
            int empty = slot;
            Edges.stays("drops", x -> { }, x -> x.drops(empty), 0);
        }
    }

    static void p47_aSlotWithAListIsAnAct() {
        Edges.isAct("drops", Edges::rich, x -> x.drops(0), 1);
        Edges.isAct("drops", Edges::rich, x -> x.drops(2), 1);
        OneAtATime x = Edges.fresh(Edges::rich);
        x.drops(2);
        Edges.due("slots", x.count(0), 1);
        Edges.due("again", x.drops(2), 0);
        Edges.due("nothing in it", x.look(2, 0), -2);
        Edges.isAct("without steps", Edges.lists("bits 1 start 0:;"), y -> y.drops(0), 1);
    }

    // ---- promise 48

    @Says("NONE: none.")
    static void p48_none() {
        Edges.stays("undo", x -> { }, OneAtATime::undo, -1);
        OneAtATime x = Edges.with(Edges.GRAY3);
        Edges.due("the one", x.undo(), 0);
        Edges.due("none", x.undo(), -1);
        Edges.due("slots", x.count(0), 0);
    }

    /** A list that has as many steps as acts came behind the one that told it. */
    private static Edges.Setup acts(int many) {
        return x -> {
            TapeWriter.tells(x, 0, "bits 8 levels 2 to 5 start 200:;");
            for (int i = 0; i < many - 1; i++) {
                x.adds(0, i % 8);
            }
        };
    }

    static void p48_nineTenElevenAndMoreThanTwiceAsMany() {
        for (int many : new int[] {1, 9, 10, 11, 12, 20, 21, 25}) {
            OneAtATime x = Edges.fresh(acts(many));
            int canBe = Math.min(many, 10);
            Edges.due("acts", x.count(1), canBe);
            for (int left = canBe - 1; left >= 0; left--) {
                Edges.due("undo", x.undo(), left);
                Edges.due("acts", x.count(1), left);
                int steps = many - 1 - (canBe - left);
                Edges.due("steps", x.look(0, 4), steps < 0 ? -2 : steps);
            }
            Edges.due("none", x.undo(), -1);
            int forgotten = many - 11;
            Edges.due("what the eleventh left", x.look(0, 4), forgotten < 0 ? -2 : forgotten);
        }
    }

    static void p48_noneLeavesAll() {
        Edges.stays("undo", x -> {
            acts(12).make(x);
            for (int i = 0; i < 10; i++) {
                x.undo();
            }
        }, OneAtATime::undo, -1);
    }

    static void p48_newActsBehindUndoneOnes() {
        OneAtATime x = Edges.fresh(acts(15));
        for (int i = 0; i < 4; i++) {
            x.undo();
        }
        Edges.due("steps", x.look(0, 4), 10);
        Edges.due("acts", x.count(1), 6);
        for (int i = 0; i < 5; i++) {
            x.adds(0, 7);
        }
        Edges.due("acts", x.count(1), 10);
        for (int left = 9; left >= 0; left--) {
            Edges.due("undo", x.undo(), left);
            Edges.due("steps", x.look(0, 4), left + 5);
        }
        Edges.due("none", x.undo(), -1);
    }

    static void p48_anUndoIsNoAct() {
        OneAtATime x = Edges.with("bits 2 start 0:;", "bits 2 start 1:;");
        Edges.due("undo", x.undo(), 1);
        Edges.due("undo", x.undo(), 0);
        Edges.due("slots", x.count(0), 0);
        Edges.due("it can not be undone", x.undo(), -1);
        Edges.due("slots", x.count(0), 0);
    }

    static void p48_everyActIsUndoneInItsSlotAlone() {
        Edges.SlotCall[] calls = {
            (x, slot) -> x.told(slot), (x, slot) -> x.makes(slot, 2),
            (x, slot) -> x.finds(slot, 0, 50),
            (x, slot) -> x.starts(slot, 0), (x, slot) -> x.swaps(slot, 0, 1),
            (x, slot) -> x.reverse(slot), (x, slot) -> x.rolls(slot, 1),
            (x, slot) -> x.mirror(slot), (x, slot) -> x.twists(slot, 0, 3),
            (x, slot) -> x.detour(slot, 0, 0), (x, slot) -> x.product(2, 0, slot),
            (x, slot) -> x.extend(slot, 0L), (x, slot) -> x.adds(slot, 0),
            (x, slot) -> x.cuts(slot, 1), (x, slot) -> x.drops(slot),
        };
        for (Edges.SlotCall call : calls) {
            long answer = call.on(Edges.fresh(Edges::rich), 2);
            Edges.isAct("on slot 2", Edges::rich, x -> call.on(x, 2), answer);
        }
        Edges.isAct("tracks", Edges.lists(null, "bits 3 start 1:;"),
            x -> x.tracks(1, 2, 1, 2), 6);
    }

    static void p48_tapeOutAndFaultStay() {
        Edges.Setup undone = x -> {
            Edges.rich(x);
            x.undo();
            x.undo();
        };
        Edges.dueText("out", Edges.out(undone), Edges.out(Edges::rich));
        Edges.dueText("tape", Edges.tape(undone), Edges.tape(Edges::rich));
        Edges.dueText("fault", Edges.fault(undone), Edges.fault(Edges::rich));
    }
}
