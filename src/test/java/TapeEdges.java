/** Boundary cases of promises 1 to 6, 49 and 50: tape, texts and faults, counts, what is told. */
final class TapeEdges {
    private static final int BLANKS = 0x20202020;
    /** 400 bytes, the text's last sign at the last of them. */
    private static final String TEXT_OF_400 = "bits 1 start 0:" + " ".repeat(384) + ";";

    private TapeEdges() {
    }

    private static int feedBlanks(OneAtATime x) {
        return x.feed(BLANKS, BLANKS, BLANKS, BLANKS, BLANKS);
    }

    private static Edges.Setup tapeOf(int length) {
        return x -> TapeWriter.writes(x, " ".repeat(length));
    }

    private static void dueFault(String text, int number, int place) {
        OneAtATime x = new OneAtATime();
        Edges.due("told " + text, TapeWriter.tells(x, 0, text), -4);
        Edges.due("fault of " + text, x.fault(0), number);
        Edges.due("its place in " + text, x.fault(1), place);
        Edges.due("tape behind " + text, x.count(2), 0);
        Edges.due("slots behind " + text, x.count(0), 0);
        Edges.due("acts behind " + text, x.count(1), 0);
    }

    private static void dueTold(String text, String list) {
        OneAtATime x = new OneAtATime();
        int steps = list.length() - list.indexOf(':') - 1;
        Edges.due("told " + text, TapeWriter.tells(x, 0, text), steps);
        Edges.due("fault of " + text, x.fault(0), 0);
        Edges.due("its place in " + text, x.fault(1), -1);
        Edges.due("tape behind " + text, x.count(2), 0);
        Edges.dueText("list of " + text, Edges.list(x, 0), list);
    }

    // ---- promise 1

    @Says("SLOTS have nothing.")
    static void p01_slotsHaveNothing() {
        OneAtATime x = new OneAtATime();
        Edges.due("slots", x.count(0), 0);
        for (int slot = 0; slot < 3; slot++) {
            Edges.due("look", x.look(slot, 0), -2);
            Edges.due("tell", x.tell(slot, 0), -2);
            Edges.due("drops", x.drops(slot), 0);
        }
        Edges.due("acts", x.count(1), 0);
    }

    static void p01_nothingToUndoNoTapeNoOutNoFault() {
        OneAtATime x = new OneAtATime();
        Edges.due("acts", x.count(1), 0);
        Edges.due("tape", x.count(2), 0);
        Edges.due("out", x.count(3), 0);
        Edges.due("undo", x.undo(), -1);
        Edges.due("octet", x.octet(0), -1);
        Edges.due("end", x.end(1), -1);
        Edges.due("fault", x.fault(0), 0);
        Edges.due("its place", x.fault(1), -1);
        Edges.due("NONE", OneAtATime.NONE, -1);
    }

    static void p01_aNewObjectHasNothingOfAnOlderOne() {
        Edges.fresh(Edges::rich);
        p01_slotsHaveNothing();
        p01_nothingToUndoNoTapeNoOutNoFault();
    }

    @Says("An object is used for at most 512 calls after it has been made;")
    static void p01_the512thCallIsStillAnswered() {
        OneAtATime x = new OneAtATime();
        int calls = 3;
        x.feed(0x62697473, 0x20332073, 0x74617274, 0x20303A3B, 0);
        x.end(16);
        Edges.due("told", x.told(0), 0);
        for (; calls < 511; calls += 2) {
            Edges.due("adds", x.adds(0, calls / 2 % 3), 1 << calls / 2 % 3);
            Edges.due("cuts", x.cuts(0, 1), 0);
        }
        Edges.due("calls", calls, 511);
        Edges.due("the 512th", x.adds(0, 2), 4);
    }

    // ---- promise 2

    static void p02_anEmptyTapeTakesTwenty() {
        Edges.due("feed", feedBlanks(new OneAtATime()), 20);
    }

    @Says("how many it has;")
    static void p02_justBelow400AndAtIt() {
        Edges.due("379 and 20", feedBlanks(Edges.fresh(tapeOf(379))), 399);
        OneAtATime x = Edges.fresh(tapeOf(380));
        Edges.due("380 and 20", feedBlanks(x), 400);
        Edges.due("tape", x.count(2), 400);
    }

    @Says("NONE, and none come, if it would have more than 400.")
    static void p02_noneComeAbove400() {
        for (int length : new int[] {381, 382, 399, 400}) {
            Edges.stays("feed behind " + length, tapeOf(length), TapeEdges::feedBlanks, -1);
            OneAtATime x = Edges.fresh(tapeOf(length));
            feedBlanks(x);
            Edges.due("tape", x.count(2), length);
        }
    }

    static void p02_aRefusedFeedLeavesTheBytesThatAreThere() {
        OneAtATime x = new OneAtATime();
        TapeWriter.writes(x, TEXT_OF_400);
        Edges.due("feed", x.feed(-1, -1, -1, -1, -1), -1);
        Edges.due("told", x.told(0), 0);
        TapeWriter.writes(x, TEXT_OF_400);
        x.end(381);
        Edges.due("feed", x.feed(-1, -1, -1, -1, -1), -1);
        Edges.due("told without its end", x.told(0), -4);
        Edges.due("place", x.fault(1), 381);
    }

    @Says("Twenty bytes come behind the TAPE,")
    static void p02_bytesComeBehindThoseThatAreThere() {
        OneAtATime x = new OneAtATime();
        TapeWriter.writes(x, "bits 3 ");
        // "start 0:01;" and blanks
        x.feed(0x73746172, 0x7420303A, 0x30313B20, BLANKS, BLANKS);
        Edges.due("tape", x.count(2), 27);
        Edges.due("told", x.told(0), 2);
    }

    @Says("four of each number, the highest first:")
    static void p02_eachNumberTheHighestByteFirst() {
        for (int at = 0; at < 20; at++) {
            int[] numbers = {BLANKS, BLANKS, BLANKS, BLANKS, BLANKS};
            numbers[at / 4] ^= (0xFF ^ 0x20) << 24 - at % 4 * 8;
            OneAtATime x = new OneAtATime();
            x.feed(numbers[0], numbers[1], numbers[2], numbers[3], numbers[4]);
            Edges.due("told", x.told(0), -4);
            Edges.due("byte 255", x.fault(1), at);
        }
    }

    static void p02_behindToldTheTapeTakes400Again() {
        OneAtATime x = Edges.fresh(tapeOf(400));
        x.told(0);
        for (int i = 1; i <= 20; i++) {
            Edges.due("feed", feedBlanks(x), 20 * i);
        }
        Edges.due("feed", feedBlanks(x), -1);
    }

    // ---- promise 3

    @Says("or n is below 0.")
    static void p03_belowZero() {
        for (int n : new int[] {-1, -2, Edges.LEAST}) {
            Edges.stays("end " + n, x -> x.end(n), -1);
        }
    }

    @Says("NONE, and nothing happens, if it has not so many,")
    static void p03_asManyAsThereAreAndOneMore() {
        for (int length : new int[] {0, 1, 20, 399, 400}) {
            Edges.stays("end " + length, tapeOf(length), x -> x.end(length), length);
            Edges.stays("one more", tapeOf(length), x -> x.end(length + 1), -1);
        }
        Edges.stays("end", tapeOf(400), x -> x.end(Edges.MOST), -1);
    }

    static void p03_oneFewerAndNone() {
        OneAtATime x = Edges.fresh(tapeOf(20));
        Edges.due("end", x.end(19), 19);
        Edges.due("tape", x.count(2), 19);
        Edges.due("what is gone is gone", x.end(20), -1);
        Edges.due("end", x.end(0), 0);
        Edges.due("tape", x.count(2), 0);
        Edges.due("end", x.end(1), -1);
        Edges.due("end", x.end(0), 0);
    }

    @Says("The TAPE has its first n bytes alone: n;")
    static void p03_theFirstBytesAlone() {
        OneAtATime x = new OneAtATime();
        TapeWriter.writes(x, "bits 3 start 0:01;;");
        Edges.due("end", x.end(18), 18);
        Edges.due("told", x.told(0), 2);
        TapeWriter.writes(x, "bits 3 start 0:01;");
        Edges.due("end", x.end(17), 17);
        Edges.due("told", x.told(0), -4);
        Edges.due("place", x.fault(1), 17);
    }

    // ---- promise 4 (and what 'Terms' I says of a text)

    @Says("-2: no such SLOT (the TAPE stays).")
    static void p04_noSuchSlotAndTheTapeStays() {
        for (int slot : new int[] {Edges.LEAST, -1, 3, Edges.MOST}) {
            Edges.stays("told " + slot, x -> x.told(slot), -2);
        }
        OneAtATime x = new OneAtATime();
        TapeWriter.writes(x, "bits 3 start 0:01;");
        x.told(3);
        Edges.due("tape", x.count(2), 18);
        Edges.due("told", x.told(2), 2);
        Edges.due("slots", x.count(0), 4);
    }

    @Says("SLOTS 0 .. 2.")
    static void p04_everySlotThereIs() {
        for (int slot = 0; slot < 3; slot++) {
            OneAtATime x = new OneAtATime();
            Edges.due("told", TapeWriter.tells(x, slot, Edges.LADDER3), 6);
            Edges.due("slots", x.count(0), 1 << slot);
            Edges.due("tape", x.count(2), 0);
        }
    }

    @Says("-4: a FAULT (the TAPE is empty, all else stays);")
    static void p04_aFaultEmptiesTheTapeAndAllElseStays() {
        for (int slot = 0; slot < 3; slot++) {
            int into = slot;
            Edges.Setup before = x -> {
                Edges.rich(x);
                TapeWriter.writes(x, "bits 3 levels 0 to 3 start 8:;");
            };
            Edges.Setup after = x -> {
                before.make(x);
                Edges.due("told", x.told(into), -4);
            };
            Edges.dueText("slots and acts", String.join("\n", Edges.slotsAndActs(after)),
                String.join("\n", Edges.slotsAndActs(before)));
            Edges.dueText("out", Edges.out(after), Edges.out(before));
            Edges.due("tape", Edges.fresh(after).count(2), 0);
            Edges.due("fault", Edges.fresh(after).fault(0), 2);
            Edges.due("place", Edges.fresh(after).fault(1), 27);
        }
    }

    static void p04_anEmptyTapeIsAFault() {
        dueFault("", 1, 0);
        dueFault(" ", 1, 1);
        dueFault(" ".repeat(400), 1, 400);
    }

    static void p04_aTapeOf400() {
        dueTold(TEXT_OF_400, "1 0 1 0:");
        dueFault(TEXT_OF_400.substring(0, 399), 1, 399);
    }

    @Says("STEPS (256 at most),")
    static void p04_stepsFromNoneTo256() {
        dueTold(Edges.turning(1, 0), "1 0 1 0:");
        dueTold(Edges.turning(1, 1), "1 0 1 0:0");
        dueTold(Edges.turning(1, 255), "1 0 1 0:" + "0".repeat(255));
        dueTold(Edges.turning(1, 256), "1 0 1 0:" + "0".repeat(256));
        dueFault(Edges.turning(1, 257), 4, 271);
    }

    @Says("WORD: N bits (1 .. 8), a number;")
    static void p04_bitsFromOneToEight() {
        dueFault("bits 0 start 0:;", 2, 5);
        for (int n = 1; n <= 8; n++) {
            dueTold("bits " + n + " start 0:;", n + " 0 " + n + " 0:");
        }
        dueFault("bits 9 start 0:;", 2, 5);
        dueFault("bits 10 start 0:;", 2, 5);
        dueFault("bits 18 start 0:;", 2, 5);
    }

    static void p04_lowestLevelFromZeroToN() {
        for (int n = 1; n <= 8; n++) {
            String text = "bits " + n + " levels %d to %d start 0:;";
            dueTold(String.format(text, 0, n), n + " 0 " + n + " 0:");
            dueTold(String.format(text, n, n), n + " " + n + " " + n + " 0:");
            dueFault(String.format(text, n + 1, n + 1), 2, 14);
        }
        dueFault("bits 8 levels 10 to 8 start 0:;", 2, 14);
    }

    static void p04_highestLevelFromTheLowestToN() {
        for (int n = 1; n <= 8; n++) {
            String text = "bits " + n + " levels %d to %d start 0:;";
            for (int a = 0; a <= n; a++) {
                dueTold(String.format(text, a, a), n + " " + a + " " + a + " 0:");
                dueTold(String.format(text, a, n), n + " " + a + " " + n + " 0:");
                dueFault(String.format(text, a, n + 1), 2, 19);
                if (a > 0) {
                    dueFault(String.format(text, a, a - 1), 2, 19);
                }
            }
        }
    }

    @Says("Without levels: 0 to N.")
    static void p04_withoutLevelsZeroToN() {
        for (int n = 1; n <= 8; n++) {
            OneAtATime x = Edges.with("bits " + n + " start 0:;");
            Edges.due("A", x.look(0, 1), 0);
            Edges.due("B", x.look(0, 2), n);
        }
    }

    static void p04_startFromZeroToTheLastWord() {
        for (int n = 1; n <= 8; n++) {
            int last = (1 << n) - 1;
            String text = "bits " + n + " start %d:;";
            dueTold(String.format(text, 0), n + " 0 " + n + " 0:");
            dueTold(String.format(text, last), n + " 0 " + n + " " + last + ":");
            dueFault(String.format(text, last + 1), 2, 13);
            dueFault(String.format(text, last + 2), 2, 13);
        }
    }

    static void p04_theStartNeedNotBeOfTheScope() {
        dueTold("bits 3 levels 1 to 1 start 0:;", "3 1 1 0:");
        dueTold("bits 3 levels 1 to 1 start 7:;", "3 1 1 7:");
    }

    static void p04_bitsOfStepsBelowN() {
        for (int n = 1; n <= 8; n++) {
            dueTold("bits " + n + " start 0:" + (n - 1) + ";", n + " 0 " + n + " 0:" + (n - 1));
            dueFault("bits " + n + " start 0:" + n + ";", 3, 15);
            dueFault("bits " + n + " start 0:0" + n + ";", 3, 16);
        }
        dueFault("bits 8 start 0:9;", 3, 15);
    }

    static void p04_numbersWithMoreDigitsThanAnInt() {
        dueTold("bits 000000000000000000000000003 start 0:;", "3 0 3 0:");
        dueTold("bits 3 start 00000000000000000000000007:;", "3 0 3 7:");
        dueFault("bits 4294967299 start 0:;", 2, 5);
        dueFault("bits 18446744073709551619 start 0:;", 2, 5);
        dueFault("bits 3 levels 4294967296 to 3 start 0:;", 2, 14);
        dueFault("bits 3 levels 0 to 4294967299 start 0:;", 2, 19);
        dueFault("bits 3 start 4294967296:;", 2, 13);
        dueFault("bits 3 start 1" + "0".repeat(300) + ":;", 2, 13);
    }

    static void p04_blanksAreTheBytes32And10Alone() {
        dueTold("\n \nbits\n3\n \nstart 0 :\n012 ; \n\n", "3 0 3 0:012");
        dueTold("bits3levels1to2start1:102;", "3 1 2 1:102");
        for (int value = 0; value < 256; value++) {
            boolean blank = value == 32 || value == 10;
            boolean partOfToken = value >= 'a' && value <= 'z';
            boolean digit = value >= '0' && value <= '9';
            String text = "bits" + (char) value + "3 start 0:;";
            if (blank) {
                dueTold(text, "3 0 3 0:");
            } else if (digit) {
                // 03 is N, the others are above 8
                if (value == '0') {
                    dueTold(text, "3 0 3 0:");
                } else {
                    dueFault(text, 2, 4);
                }
            } else {
                dueFault(text, 1, partOfToken ? 0 : 4);
            }
        }
    }

    @Says("BITS: digits, one TOKEN, each a bit.")
    static void p04_bitsAreOneToken() {
        dueTold("bits 3 start 0: 012 ;", "3 0 3 0:012");
        dueFault("bits 3 start 0:01 2;", 1, 18);
        dueFault("bits 3 start 0:01\n2;", 1, 18);
        dueFault("bits 3 start 0:0,1;", 1, 16);
    }

    static void p04_aTokenIsTheLongest() {
        dueFault("bit 3 start 0:;", 1, 0);
        dueFault("bitss 3 start 0:;", 1, 0);
        dueFault("bitsstart 3 start 0:;", 1, 0);
        dueFault("bi ts 3 start 0:;", 1, 0);
        dueFault("cits 3 start 0:;", 1, 0);
        dueFault("bitt 3 start 0:;", 1, 0);
        dueFault("bits 3 ttart 0:;", 1, 7);
        dueFault("bits 3 starx 0:;", 1, 7);
        dueFault("bits 3 mevels 0 to 3 start 0:;", 1, 7);
        dueFault("bits 3 levels 0 so 3 start 0:;", 1, 16);
        dueFault("bits 3 levels 0 ti 3 start 0:;", 1, 16);
        dueFault("bits 3 star 0:;", 1, 7);
        dueFault("bits 3 starts 0:;", 1, 7);
        dueFault("bits 3 level 0 to 3 start 0:;", 1, 7);
        dueFault("bits 3 levelss 0 to 3 start 0:;", 1, 7);
        dueFault("bits 3 levels 0 t 3 start 0:;", 1, 16);
        dueFault("bits 3 levels 0 too 3 start 0:;", 1, 16);
        dueFault("bits 1 2 start 0:;", 1, 7);
    }

    static void p04_theSameListAgainIsNoActAndAnyOtherIs() {
        String now = "bits 4 levels 1 to 3 start 5:0123;";
        OneAtATime x = Edges.with(now);
        Edges.due("the same", TapeWriter.tells(x, 0, now), 4);
        Edges.due("acts", x.count(1), 1);
        Edges.due("into another slot", TapeWriter.tells(x, 1, now), 4);
        Edges.due("acts", x.count(1), 2);
        String[] others = {
            "bits 5 levels 1 to 3 start 5:0123;", "bits 4 levels 0 to 3 start 5:0123;",
            "bits 4 levels 1 to 4 start 5:0123;", "bits 4 levels 1 to 3 start 4:0123;",
            "bits 4 levels 1 to 3 start 5:0122;", "bits 4 levels 1 to 3 start 5:1123;",
            "bits 4 levels 1 to 3 start 5:012;", "bits 4 levels 1 to 3 start 5:01233;",
            "bits 4 levels 1 to 3 start 5:;",
        };
        for (String other : others) {
            Edges.isAct("told " + other, Edges.lists(now),
                y -> TapeWriter.tells(y, 0, other), other.indexOf(';') - other.indexOf(':') - 1);
        }
    }

    static void p04_theTapeIsEmptyThen() {
        OneAtATime x = Edges.with(Edges.GRAY3);
        Edges.due("tape", x.count(2), 0);
        Edges.due("told again", x.told(0), -4);
        Edges.due("it stays", x.look(0, 4), 8);
    }

    // ---- promise 5

    @Says("NONE for another what,")
    static void p05_whatsThatAreNone() {
        for (int what : new int[] {Edges.LEAST, -1, 2, Edges.MOST}) {
            Edges.due("ahead of any", new OneAtATime().fault(what), -1);
            Edges.stays("fault " + what, x -> x.fault(what), -1);
            Edges.due("without", Edges.with(Edges.GRAY3).fault(what), -1);
        }
    }

    @Says("and ahead of any (what 1).")
    static void p05_aheadOfAny() {
        OneAtATime x = new OneAtATime();
        Edges.due("fault", x.fault(0), 0);
        Edges.due("place", x.fault(1), -1);
        Edges.due("refused", x.told(3), -2);
        Edges.due("still ahead of any", x.fault(0), 0);
        Edges.due("still ahead of any", x.fault(1), -1);
    }

    @Says("Of the latest told() that was not -2,")
    static void p05_ofTheLatestThatWasNotRefused() {
        OneAtATime x = new OneAtATime();
        TapeWriter.tells(x, 0, "bits 3 start 0:3;");
        Edges.due("refused", TapeWriter.tells(x, 3, "bits 0;"), -2);
        Edges.due("fault", x.fault(0), 3);
        Edges.due("place", x.fault(1), 15);
        Edges.due("told", TapeWriter.tells(x, 0, Edges.GRAY3), 8);
        Edges.due("without", x.fault(0), 0);
        Edges.due("without", x.fault(1), -1);
        Edges.due("refused", TapeWriter.tells(x, -1, "bits 0;"), -2);
        Edges.due("without", x.fault(0), 0);
        Edges.due("without", x.fault(1), -1);
        TapeWriter.tells(x, 0, "");
        Edges.due("fault", x.fault(0), 1);
        Edges.due("the first byte", x.fault(1), 0);
    }

    @Says("(a TOKEN's; the end's) is least,")
    static void p05_theEndIsAtTheTapesLength() {
        String[] begun = {
            "", "bits", "bits 3", "bits 3 levels", "bits 3 levels 1", "bits 3 levels 1 to",
            "bits 3 levels 1 to 2", "bits 3 levels 1 to 2 start", "bits 3 levels 1 to 2 start 1",
            "bits 3 levels 1 to 2 start 1:", "bits 3 levels 1 to 2 start 1:102",
        };
        for (String text : begun) {
            dueFault(text, 1, text.length());
            dueFault(text + " ", 1, text.length() + 1);
            dueFault(text + "\n \n", 1, text.length() + 3);
        }
        dueTold("bits 3 levels 1 to 2 start 1:102;", "3 1 2 1:102");
    }

    static void p05_aTokenThatCannotStandThereIsToldByItsFirstByte() {
        String[] tokens = {"bits", "3", "levels", "1", "to", "2", "start", "1", ":", "102", ";"};
        for (int i = 0; i < tokens.length; i++) {
            StringBuilder text = new StringBuilder();
            int place = 0;
            for (int k = 0; k < tokens.length; k++) {
                if (k == i) {
                    place = text.length();
                    text.append("# ");
                }
                text.append(tokens[k]).append(' ');
            }
            dueFault(text.toString(), 1, place);
        }
        dueFault("bits 3 start 0:;;", 1, 16);
        dueFault("bits 3 start 0:; bits", 1, 17);
        dueFault("bits 3 start 0:; 1", 1, 17);
    }

    static void p05_aTokenLeftOut() {
        dueFault("3 start 0:;", 1, 0);
        dueFault("bits start 0:;", 1, 5);
        dueFault("bits 3 0:;", 1, 7);
        dueFault("bits 3 start :;", 1, 13);
        dueFault("bits 3 start 0;", 1, 14);
        dueFault("bits 3 start 0 012;", 1, 15);
        dueFault("bits 3 levels to 2 start 0:;", 1, 14);
        dueFault("bits 3 levels 1 2 start 0:;", 1, 16);
        dueFault("bits 3 levels 1 to start 0:;", 1, 19);
        dueFault("bits 3 levels 1 to 2:;", 1, 20);
    }

    static void p05_signsBesideLettersAndDigits() {
        dueFault("`its 3 start 0:;", 1, 0);
        dueFault("bits{3 start 0:;", 1, 4);
        dueFault("bits`3 start 0:;", 1, 4);
        dueFault("Bits 3 start 0:;", 1, 0);
        dueFault("bitS 3 start 0:;", 1, 0);
        dueFault("bits 3/start 0:;", 1, 6);
        dueFault("bits 3:start 0:;", 1, 6);
        dueFault("bits 3 start 0:0/;", 1, 16);
        dueFault("bits 3 start 0:0:;", 1, 16);
        dueFault("bits 3 start -1:;", 1, 13);
    }

    @Says("FAULTS, of several the one whose first byte")
    static void p05_ofSeveralTheLeastByte() {
        dueFault("bits 9 levels 10 to 11 start 999:9", 2, 5);
        dueFault("bits 3 levels 4 to 5 start 8:9", 2, 14);
        dueFault("bits 3 levels 2 to 1 start 8:9", 2, 19);
        dueFault("bits 3 start 8:9", 2, 13);
        dueFault("bits 3 start 8#", 2, 13);
        dueFault("bits 3 # start 8:;", 1, 7);
        dueFault("bits 3 start 0:9", 3, 15);
        dueFault("bits 3 start 0:0129 5;", 3, 18);
        dueFault("bits 3 start 0:0120 5;", 1, 20);
        dueFault("bits 3 start 0:93;", 3, 15);
    }

    @Says("4 a 257th bit, at it.")
    static void p05_the257thBit() {
        String full = "bits 1 start 0:" + "0".repeat(256);
        dueFault(full + "0;", 4, 271);
        dueFault(full + "00;", 4, 271);
        dueFault(full + "0", 4, 271);
        dueFault(full + "0#", 4, 271);
        dueFault(full + "01;", 4, 271);
        dueFault(full, 1, 271);
        dueFault(full + " 0;", 1, 272);
    }

    @Says("of one byte the least number:")
    static void p05_ofOneByteTheLeastNumber() {
        String full = "bits 1 start 0:" + "0".repeat(256);
        dueFault(full + "1;", 3, 271);
        dueFault(full + "9;", 3, 271);
        dueFault("bits 1 start 0:" + "0".repeat(255) + "10;", 3, 270);
    }

    // ---- promise 6

    @Says("NONE for others.")
    static void p06_whatsThatAreNone() {
        for (int what : new int[] {Edges.LEAST, -1, 4, Edges.MOST}) {
            Edges.stays("count " + what, x -> x.count(what), -1);
            Edges.due("of a new object", new OneAtATime().count(what), -1);
        }
    }

    static void p06_whatsThatAreAskNothingElse() {
        int[] want = {5, 5, 34, 12};
        for (int what = 0; what < 4; what++) {
            int asked = what;
            Edges.stays("count " + what, x -> x.count(asked), want[what]);
        }
    }

    static void p06_slotsFromNoneToAll() {
        for (int slots = 0; slots < 8; slots++) {
            OneAtATime x = new OneAtATime();
            for (int slot = 0; slot < 3; slot++) {
                if ((slots >> slot & 1) == 1) {
                    TapeWriter.tells(x, slot, Edges.LADDER3);
                }
            }
            Edges.due("slots", x.count(0), slots);
        }
    }

    static void p06_actsFromNoneToTen() {
        OneAtATime x = new OneAtATime();
        Edges.due("acts", x.count(1), 0);
        TapeWriter.tells(x, 0, "bits 1 start 0:;");
        for (int acts = 1; acts <= 13; acts++) {
            Edges.due("acts", x.count(1), Math.min(acts, 10));
            x.adds(0, 0);
        }
    }

    static void p06_bytesOfTheTapeFromNoneTo400() {
        for (int length : new int[] {0, 1, 19, 20, 21, 399, 400}) {
            Edges.due("tape", Edges.fresh(tapeOf(length)).count(2), length);
        }
    }

    static void p06_bytesOfOutFromNoneToTheMost() {
        OneAtATime x = Edges.with(Edges.turning(8, 256));
        Edges.due("out", x.count(3), 0);
        x.tell(0, 1);
        Edges.due("a loop", x.count(3), 256 * 9);
        x.starts(0, 255);
        x.tell(0, 0);
        Edges.due("the longest text", x.count(3), 288);
        x.cuts(0, 1);
        x.adds(0, 1);
        x.tell(0, 1);
        Edges.due("the most words", x.count(3), 257 * 9);
    }

    // ---- promise 49

    @Says("-2.")
    static void p49_needsAList() {
        Edges.needsList((x, slot) -> x.tell(slot, 0));
        Edges.needsList((x, slot) -> x.tell(slot, 1));
    }

    @Says("-2.")
    static void p49_whatsThatAreNone() {
        for (int what : new int[] {Edges.LEAST, -1, 2, Edges.MOST}) {
            Edges.stays("tell " + what, x -> x.tell(0, what), -2);
        }
    }

    static void p49_outAloneIsOtherwise() {
        for (int what = 0; what < 2; what++) {
            int told = what;
            Edges.Setup after = x -> {
                Edges.rich(x);
                x.tell(0, told);
            };
            Edges.dueText("slots and acts", String.join("\n", Edges.slotsAndActs(after)),
                String.join("\n", Edges.slotsAndActs(Edges::rich)));
            Edges.dueText("tape", Edges.tape(after), Edges.tape(Edges::rich));
            Edges.dueText("fault", Edges.fault(after), Edges.fault(Edges::rich));
            Edges.dueText("out", Edges.out(after), what == 0
                ? "bits 3 levels 0 to 3 start 2:20102010;"
                : "010\n110\n111\n101\n100\n000\n001\n011\n");
        }
    }

    private static void dueOut(String text, int what, String want) {
        Edges.due("tell", Edges.with(text).tell(0, what), want.length());
        Edges.dueText("out of " + text, Edges.out(x -> {
            TapeWriter.tells(x, 0, text);
            x.tell(0, what);
        }), want);
    }

    static void p49_noStepsAndOne() {
        dueOut("bits 1 start 0:;", 0, "bits 1 levels 0 to 1 start 0:;");
        dueOut("bits 1 start 0:;", 1, "0\n");
        dueOut("bits 1 start 0:0;", 0, "bits 1 levels 0 to 1 start 0:0;");
        dueOut("bits 1 start 0:0;", 1, "0\n1\n");
    }

    static void p49_startsOfOneTwoAndThreeDigits() {
        for (int start : new int[] {0, 9, 10, 11, 99, 100, 101, 109, 110, 199, 200, 255}) {
            dueOut("bits 8 levels 8 to 8 start " + start + ":7;", 0,
                "bits 8 levels 8 to 8 start " + start + ":7;");
        }
    }

    static void p49_theLastPlaceOfALoopIsNotToldThatOfAnotherListIs() {
        dueOut("bits 2 start 0:00;", 1, "00\n01\n");
        dueOut("bits 2 start 0:000;", 1, "00\n01\n00\n01\n");
        dueOut("bits 2 start 2:0;", 1, "10\n11\n");
    }

    static void p49_eightBitsAndOne() {
        dueOut("bits 8 start 128:7;", 1, "10000000\n00000000\n");
        dueOut("bits 8 start 1:;", 1, "00000001\n");
        dueOut("bits 1 start 1:;", 1, "1\n");
    }

    static void p49_256StepsBothWays() {
        String line = "0".repeat(255) + "1";
        dueOut("bits 8 start 255:" + line + ";", 0,
            "bits 8 levels 0 to 8 start 255:" + line + ";");
        dueOut("bits 8 start 255:" + line + ";", 1,
            "11111111\n11111110\n".repeat(128) + "11111100\n");
        dueOut(Edges.turning(8, 256), 1, "00000000\n00000001\n".repeat(128));
    }

    static void p49_aLongerOneAheadLeavesNothingBehind() {
        OneAtATime x = Edges.with(Edges.GRAY3, "bits 1 start 0:;");
        Edges.due("longer", x.tell(0, 1), 32);
        Edges.due("shorter", x.tell(1, 1), 2);
        Edges.due("out", x.count(3), 2);
        Edges.due("octet", x.octet(0), '0');
        Edges.due("octet", x.octet(1), 10);
        Edges.due("octet", x.octet(2), -1);
    }

    static void p49_aRefusedOneLeavesOut() {
        OneAtATime x = Edges.with(Edges.GRAY3);
        Edges.due("ahead of any", x.tell(1, 0), -2);
        Edges.due("out", x.count(3), 0);
        x.tell(0, 1);
        Edges.due("no list", x.tell(1, 0), -2);
        Edges.due("no what", x.tell(0, 2), -2);
        Edges.due("no slot", x.tell(3, 0), -2);
        Edges.due("out", x.count(3), 32);
        Edges.due("octet", x.octet(6), '1');
    }

    // ---- promise 50

    @Says("empty ahead of any).")
    static void p50_emptyAheadOfAny() {
        OneAtATime x = Edges.with(Edges.GRAY3);
        for (int i : new int[] {Edges.LEAST, -1, 0, 1, Edges.MOST}) {
            Edges.due("octet " + i, x.octet(i), -1);
        }
    }

    @Says("NONE: there is none such.")
    static void p50_belowTheFirstAndBehindTheLast() {
        for (int i : new int[] {Edges.LEAST, -1, 12, 13, Edges.MOST}) {
            Edges.stays("octet " + i, x -> x.octet(i), -1);
        }
        Edges.stays("the first", x -> x.octet(0), '0');
        Edges.stays("the last", x -> x.octet(11), 10);
    }

    static void p50_theLastOfTheMost() {
        OneAtATime x = Edges.with("bits 8 start 255:" + "0".repeat(255) + "1;");
        x.tell(0, 1);
        Edges.due("the last but one", x.octet(2311), '0');
        Edges.due("the last", x.octet(2312), 10);
        Edges.due("behind it", x.octet(2313), -1);
    }

    @Says("(what was told in it last by a call that was not refused, whatever came since;")
    static void p50_whateverCameSince() {
        String due = "01\n00\n10\n11\n";
        Edges.Call[] calls = {
            x -> x.drops(2), x -> x.undo(), x -> x.adds(2, 0), x -> x.told(2), x -> x.end(0),
            x -> x.tell(1, 0), x -> x.tell(2, 2), x -> x.tell(3, 1), x -> x.makes(2, 1),
            x -> x.product(2, 2, 2), x -> x.mirror(2),
        };
        for (int i = 0; i < calls.length; i++) {
            Edges.Call call = calls[i];
            Edges.dueText("out behind call " + i, Edges.out(x -> {
                Edges.rich(x);
                call.on(x);
            }), due);
        }
    }
}
