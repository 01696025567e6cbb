/** The edges of promises 1 to 8, of "A RUN" and of refused calls: a test for each sentence. */
public final class CallsEdgeTest {
    private static final Checks CHECK = new Checks();

    public static void main(String[] args) {
        calls512();
        noLines();
        nothingTyped();
        nothingRun();
        nothingKept();
        lowestBytes();
        bytesCounted();
        bytesAllowed();
        fortyCharacters();
        typedIsTaken();
        typedIsGoneIfFaulty();
        typedIsGoneIfFull();
        answersId();
        answersFault();
        tooManyBits();
        thirdHardLine();
        twentyLines();
        lineEndsRun();
        lineDropsKept();
        refusedWhenBusy();
        refusedLinesAddNothing();
        refusedWhenFull();
        refusedWhenIdle();
        refusedWhileTyping();
        numberOfLines();
        beginsInPlace();
        beginKeepsKept();
        beginsWithInputs0();
        chosenStates();
        otherBitsOfBegin();
        feedsInOrder();
        otherBitsOfFeed();
        feedsWithoutRun();
        stepsWithInputs0();
        stepsAgainstConstraints();
        stepsWithoutRun();
        nextValues();
        keepsItsValue();
        valueWithoutRun();
        valueWithoutNode();
        CHECK.end();
    }

    private static WordChecker with(String... lines) {
        return CHECK.with(lines);
    }

    private static void line(WordChecker x, String text, int want) {
        CHECK.line(x, text, want);
    }

    private static void due(String call, long got, long want) {
        CHECK.due(call, got, want);
    }

    private static void due(String call, boolean got, boolean want) {
        CHECK.due(call, got, want);
    }

    /** A counter mod 8 from 1 on, that is bad at 3: found at step 2. Its object has a run at step 1, too. */
    private static WordChecker busy() {
        WordChecker x = with("1 sort bitvec 1", "2 sort bitvec 3", "3 constd 2 1", "4 state 2", "5 init 2 4 3",
            "6 add 2 4 3", "7 next 2 4 6", "8 constd 2 3", "9 eq 1 4 8", "10 bad 9", "11 input 1", "12 state 1");
        due("busy: find(3)", x.find(3), 2);
        x.begin(1);
        x.step();
        x.feed(1);
        return x;
    }

    private static void runIsOn(String when, WordChecker x) {
        due(when + ": the state of the run", x.value(4), 2);
        due(when + ": its input", x.value(11), 1);
        due(when + ": its chosen state", x.value(12), 1);
    }

    private static void isKept(String when, WordChecker x) {
        due(when + ": kept at step 0", x.shown(0, 4), 1);
        due(when + ": kept at step 2", x.shown(2, 4), 3);
        due(when + ": kept at step 3", x.shown(3, 4), -1);
    }

    private static void calls512() {
        CHECK.sentence("An object is used for at most 512 calls after it has been made");
        WordChecker x = new WordChecker();
        String text = "1 sort bitvec 1";
        for (int i = 0; i < text.length(); i++) {
            due("type " + i, x.type(text.charAt(i), 1), true);
        }
        due("line()", x.line(), 1);
        for (int i = 0; i < 9; i++) {
            due("type more " + i, x.type("2 state 1".charAt(i), 1), true);
        }
        due("line()", x.line(), 2);
        // 26 calls were made; each round has 4, so that the last one ends with the 510th.
        for (int i = 0; i < 121; i++) {
            x.begin(i);
            due("call of round " + i, x.value(2), i % 2);
            due("find of round " + i, x.find(3), -1);
            due("prove of round " + i, x.prove(2), 1);
        }
        due("call 511", x.step(), true);
        due("call 512", x.value(2), 0);
    }

    // Promise 1

    private static void noLines() {
        CHECK.sentence("No lines");
        WordChecker x = new WordChecker();
        due("lines()", x.lines(), 0);
        due("find(3)", x.find(3), -1);
        due("prove(2)", x.prove(2), 1);
        x.begin(-1);
        for (int id = -1; id <= 100; id++) {
            due("value(" + id + ")", x.value(id), -1);
        }
        line(x, "1 input 1", -3);
        line(x, "1 bad 1", -3);
        WordChecker other = busy();
        due("an object beside it", new WordChecker().lines(), 0);
        due("leaves this one", other.lines(), 12);
    }

    private static void nothingTyped() {
        CHECK.sentence("nothing is typed");
        due("line()", new WordChecker().line(), -1);
        WordChecker x = new WordChecker();
        for (int i = 0; i < 10; i++) {
            due("four of 40 characters", x.type(Checks.pack("    "), 4), true);
        }
        WordChecker typed = new WordChecker();
        Checks.type(typed, "1 sort bitvec 1");
        due("what is typed is one object's", new WordChecker().line(), -1);
        due("and stays there", typed.line(), 1);
    }

    private static void nothingRun() {
        CHECK.sentence("nothing is typed, run");
        WordChecker other = busy();
        due("feed(0)", new WordChecker().feed(0), false);
        due("step()", new WordChecker().step(), false);
        runIsOn("of an object beside it", other);
        WordChecker x = with("1 sort bitvec 1", "2 constd 1 1");
        due("value(2)", x.value(2), -1);
    }

    private static void nothingKept() {
        CHECK.sentence("run or kept");
        WordChecker x = with("1 sort bitvec 1", "2 constd 1 1", "3 bad 2");
        due("shown(0, 2)", x.shown(0, 2), -1);
        WordChecker other = busy();
        due("beside one that keeps something", x.shown(0, 2), -1);
        due("of a new one", new WordChecker().shown(0, 0), -1);
        isKept("of an object beside it", other);
    }

    // Promise 2

    private static void lowestBytes() {
        CHECK.sentence("Appends the n lowest bytes of word, the highest of them first, as characters to what is typed");
        WordChecker x = new WordChecker();
        due("1 byte", x.type(0x7A7A7A31, 1), true);
        due("2 bytes", x.type(0x7A7A2073, 2), true);
        due("3 bytes", x.type(0x7A6F7274, 3), true);
        due("4 bytes", x.type(0x20626974, 4), true);
        due("3 bytes, above them what is no character", x.type(0xFF766563, 3), true);
        due("2 bytes, above them what is no character", x.type(0x001F2031, 2), true);
        due("the line", x.line(), 1);
        line(x, "2 input 1", 2);
    }

    private static void bytesCounted() {
        CHECK.sentence("false, refused, if n is not 1 .. 4");
        WordChecker x = new WordChecker();
        Checks.type(x, "1 sort bitvec 2");
        int[] wrong = {0, 5, -1, 6, 8, 32, 256, -4, 1 << 30, Integer.MIN_VALUE, Integer.MIN_VALUE + 1,
            Integer.MAX_VALUE};
        for (int n : wrong) {
            due("n = " + n, x.type(0x20202020, n), false);
            due("n = " + n, x.type(0x31313131, n), false);
        }
        due("nothing was typed", x.line(), 1);
        for (int n = 1; n <= 4; n++) {
            due("n = " + n, x.type(0x20202020, n), true);
        }
    }

    private static void bytesAllowed() {
        CHECK.sentence("one of them is not 32 .. 126");
        int[] wrong = {0, 1, 9, 10, 13, 31, 127, 128, 160, 176, 254, 255};
        WordChecker x = new WordChecker();
        Checks.type(x, "1 sort bitvec 1");
        for (int n = 1; n <= 4; n++) {
            for (int at = 0; at < n; at++) {
                for (int c : wrong) {
                    int word = 0x20202020 & ~(255 << (8 * at)) | c << (8 * at);
                    due("byte " + c + " at " + at + " of " + n, x.type(word, n), false);
                }
            }
        }
        due("nothing was typed", x.line(), 1);
        for (int n = 1; n <= 4; n++) {
            due("32 at each place of " + n, x.type(0x20202020, n), true);
        }
        due("of that nothing is a word", x.line(), -1);
        for (int n = 1; n <= 4; n++) {
            due("126 at each place of " + n, x.type(0x7E7E7E7E, n), true);
        }
        due("of that the first word is at fault", x.line(), -1);
        line(x, "2 ~ !", -2);
    }

    private static void fortyCharacters() {
        CHECK.sentence("or more than 40 would be there");
        for (int n = 1; n <= 4; n++) {
            WordChecker x = new WordChecker();
            Checks.type(x, "1 sort bitvec 1");
            for (int there = 15; there < 41 - n; there++) {
                due("a space", x.type(' ', 1), true);
            }
            due(n + " more than " + (41 - n), x.type(0x39393939, n), false);
            if (n > 1) {
                due(n - 1 + " more", x.type(0x20202020, n - 1), true);
            }
            for (int more = 1; more <= 4; more++) {
                due(more + " more than 40", x.type(0x20202020, more), false);
            }
            due("the line of 40", x.line(), 1);
            for (int i = 0; i < 40 / n; i++) {
                due("again up to 40", x.type(0x20202020, n), true);
            }
            due("41 again", x.type(0x20202020, 40 % n + 1), false);
        }
        WordChecker y = new WordChecker();
        line(y, "                         1 sort bitvec 1", 1);
        line(y, "                          2 sort bitvec 1", -4);
    }

    // Promise 3

    private static void typedIsTaken() {
        CHECK.sentence("Takes what is typed as the next line; nothing is typed then");
        WordChecker x = with("1 sort bitvec 1");
        due("nothing is typed", x.line(), -1);
        Checks.type(x, "2 input");
        Checks.type(x, " 1");
        due("what two calls typed", x.line(), 2);
        due("nothing is typed", x.line(), -1);
        due("two lines", x.lines(), 2);
    }

    private static void typedIsGoneIfFaulty() {
        CHECK.sentence("(also if it was faulty");
        WordChecker x = with("1 sort bitvec 1");
        line(x, "2 input", -3);
        line(x, "1", -1);
        line(x, "2 input", -3);
        due("nothing is typed", x.line(), -1);
        line(x, "1 1 1 1 1 1 1 1 1 1 1 1 1 1 1 1 1 1 1 1", -1);
        line(x, "2 input 1                               ", 2);
        for (String good : Samples.LINES) {
            WordChecker y = with(Samples.BASE);
            line(y, "9 input 9", -3);
            line(y, "9 slice 2 6 1 2", -6);
            line(y, "9 write 4 5 7 6", -6);
            line(y, "9 and 9", -3);
            line(y, "9 " + good, 9);
        }
    }

    private static void typedIsGoneIfFull() {
        CHECK.sentence("or there are 20 lines)");
        WordChecker x = with(Samples.full());
        line(x, "21 not 2 6", -100);
        due("nothing is typed", x.line(), -1);
        line(x, "21 not 2 6                              ", -100);
        line(x, "                              21 not 2 6", -100);
        line(x, "21 not 2", -4);
        due("nothing is typed", x.line(), -1);
    }

    private static void answersId() {
        CHECK.sentence("Answers its ID");
        WordChecker x = new WordChecker();
        int[] ids = {1, 2, 9, 10, 11, 20, 50, 90, 98, 99};
        for (int id : ids) {
            line(x, id + " sort bitvec 1", id);
        }
    }

    private static void answersFault() {
        CHECK.sentence("-1 - j if it is faulty, j being the number (from 0) of the first word at fault");
        WordChecker x = with(Samples.BASE);
        line(x, "8 foo 99 99 99 99 99", -1);
        line(x, "9 foo 99 99 99 99 99", -2);
        line(x, "9 ite 99 99 99 99 99", -3);
        line(x, "9 ite 2 99 99 99 99", -4);
        line(x, "9 ite 2 7 99 99 99", -5);
        line(x, "9 ite 2 7 6 99 99", -6);
        line(x, "9 ite 2 7 6 6 99", -7);
        line(x, "9 ite 2 7 6 6", 9);
    }

    private static void tooManyBits() {
        CHECK.sentence("a sort that would make too many bits of inputs or states is at fault");
        WordChecker x = with(Samples.baseAnd("9 sort array 1 2", "10 state 2"));
        line(x, "11 state 1", -3);
        line(x, "11 state 9 1 1", -3);
        line(x, "11 input 2", -3);
        line(x, "11 input 3 1", -3);
        line(x, "10 state 1", -1);
        line(x, "11 input 1 1", -4);
        line(x, "11 input 1", 11);
        line(x, "12 input 1", -3);
        line(x, "12 not 1 11", 12);
        WordChecker full = with(Samples.filled(Samples.baseAnd("9 state 2", "10 input 1"), 11));
        line(full, "21 state 1", -3);
        line(full, "21 input 1", -3);
        line(full, "21 not 1 7", -100);
    }

    private static void thirdHardLine() {
        CHECK.sentence("so is the second word, if it would be a third line with mul, udiv or urem");
        WordChecker x = with(Samples.BASE);
        line(x, "9 mul 2 6", -5);
        line(x, "9 udiv 1 6 6", -4);
        line(x, "9 urem 2 6 6 6", -6);
        line(x, "9 mul 2 6 6", 9);
        line(x, "10 udiv 99 6 6", -3);
        line(x, "10 udiv 2 6 6", 10);
        line(x, "11 urem 2 6 6", -2);
        line(x, "11 mul 99 99 99", -2);
        line(x, "11 udiv", -2);
        line(x, "10 udiv 2 6 6", -1);
        line(x, "11 sub 2 6 6", 11);
        WordChecker full = with(Samples.filled(Samples.baseAnd("9 mul 2 6 6"), 10));
        line(full, "21 urem 2 6 6", -100);
        line(full, "22 urem 2 6 6", -100);
        WordChecker two = with(Samples.filled(Samples.baseAnd("9 mul 2 6 6", "10 mul 2 6 6"), 11));
        line(two, "21 urem 2 6 6", -2);
        line(two, "20 urem 2 6 6", -1);
    }

    private static void twentyLines() {
        CHECK.sentence("-100 if it is not faulty, but there are 20 lines");
        for (String text : Samples.LINES) {
            WordChecker x = with(Samples.full());
            line(x, "99 " + text, -100);
            line(x, "99 " + text + " 1", -2 - text.split(" ").length);
            line(x, "99 " + text, -100);
            line(x, "20 " + text, -1);
            due("value of the line that was not taken", x.value(99), -1);
        }
        WordChecker x = with(Samples.filled(Samples.baseAnd("9 bad 7", "10 constd 1 1"), 11));
        due("find(0)", x.find(0), 0);
        line(x, "21 constraint -7", -100);
        line(x, "21 bad 10", -100);
        line(x, "21 init 2 6 8", -100);
        line(x, "21 next 2 6 8", -100);
        line(x, "21 input 1", -100);
        due("no constraint was added, nor something bad", x.find(0), 0);
        due("the input", x.shown(0, 7), 1);
        x.begin(0);
        due("no init was set", x.value(6), 0);
        x.step();
        due("no next was set", x.value(6), 0);
    }

    private static void lineEndsRun() {
        CHECK.sentence("A line that is taken ends the run of begin");
        for (String text : Samples.LINES) {
            WordChecker x = with(Samples.BASE);
            x.begin(0);
            due("a run is on", x.value(8), 2);
            line(x, "9 " + text, 9);
            due("value after " + text, x.value(8), -1);
            due("feed after " + text, x.feed(1), false);
            due("step after " + text, x.step(), false);
            x.begin(0);
            due("a run again after " + text, x.value(8), 2);
        }
    }

    private static void lineDropsKept() {
        CHECK.sentence("and drops what was kept");
        for (String text : Samples.LINES) {
            WordChecker x = with(Samples.baseAnd("9 bad 7"));
            due("find(0)", x.find(0), 0);
            due("what is kept", x.shown(0, 7), 1);
            line(x, "10 " + text, 10);
            due("after " + text, x.shown(0, 7), -1);
        }
        WordChecker last = with(Samples.both(Samples.BASE, "9 bad 7"));
        for (int id = 10; id <= 20; id++) {
            last.find(0);
            last.begin(0);
            line(last, id + " sort bitvec 1", id);
            due("after line " + id, last.shown(0, 7), -1);
            due("after line " + id, last.value(7), -1);
        }
    }

    private static void refusedWhenBusy() {
        CHECK.sentence("A call that is refused changes nothing.");
        WordChecker x = busy();
        String[] faulty = {"", "13", "12 state 1", "13 state 2 2", "13 input 2", "13 next 2 4 6", "13 bad 4"};
        for (String text : faulty) {
            due("line \"" + text + "\" is faulty", Checks.take(x, text) < 0, true);
            runIsOn("after \"" + text + "\"", x);
            isKept("after \"" + text + "\"", x);
        }
        refusedCalls(x);
        runIsOn("after refused calls", x);
        isKept("after refused calls", x);
        line(x, "13 state 1", 13);
    }

    private static void refusedLinesAddNothing() {
        WordChecker x = with(Samples.baseAnd("9 constd 1 1", "10 bad 7"));
        line(x, "11 bad 9 9", -4);
        line(x, "11 constraint -7 7", -4);
        line(x, "11 constraint -9 9", -4);
        line(x, "11 init 2 6 8 8", -6);
        line(x, "11 next 2 6 -6 6", -6);
        due("no constraint was added, nor something bad", x.find(0), 0);
        due("the input", x.shown(0, 7), 1);
        x.begin(0);
        due("no init was set", x.value(6), 0);
        x.step();
        due("no next was set", x.value(6), 0);
        line(x, "11 state 1 1", -4);
        line(x, "11 state 2", 11);
        line(x, "12 input 1 1", -4);
        line(x, "12 input 1", 12);
    }

    private static void refusedWhenFull() {
        WordChecker x = with(Samples.filled(Samples.baseAnd("9 bad 7"), 10));
        due("find(0)", x.find(0), 0);
        x.begin(4);
        line(x, "21 state 1", -100);
        due("the run after -100", x.value(6), 1);
        due("what is kept after -100", x.shown(0, 7), 1);
    }

    private static void refusedWhenIdle() {
        WordChecker x = with(Samples.baseAnd("9 bad 7"));
        due("feed(1)", x.feed(1), false);
        due("step()", x.step(), false);
        refusedCalls(x);
        due("no run", x.value(7), -1);
        due("nothing kept", x.shown(0, 7), -1);
    }

    private static void refusedWhileTyping() {
        WordChecker x = with(Samples.baseAnd("9 bad 7"));
        Checks.type(x, "10 not 2");
        due("feed(1)", x.feed(1), false);
        due("step()", x.step(), false);
        refusedCalls(x);
        due("what is typed stays", Checks.take(x, " 6"), 10);
        Checks.type(x, "11 not 2");
        x.begin(0);
        x.feed(0);
        x.step();
        x.find(3);
        x.prove(2);
        x.shown(0, 7);
        x.value(7);
        x.lines();
        due("so it does through other calls", Checks.take(x, " 6"), 11);
    }

    private static void refusedCalls(WordChecker x) {
        due("find(-1)", x.find(-1), -2);
        due("find(4)", x.find(4), -2);
        due("prove(-1)", x.prove(-1), -2);
        due("prove(3)", x.prove(3), -2);
        due("type of 0 bytes", x.type(0x31313131, 0), false);
        due("type of 5 bytes", x.type(0x31313131, 5), false);
        due("type of what is no character", x.type(0x3131317F, 4), false);
        due("shown(-1, 4)", x.shown(-1, 4), -1);
        due("value(99)", x.value(99), -1);
    }

    // Promise 4

    private static void numberOfLines() {
        CHECK.sentence("The number of lines.");
        WordChecker x = new WordChecker();
        due("none", x.lines(), 0);
        for (int id = 1; id <= 20; id++) {
            due("line", Checks.take(x, 4 * id + " sort bitvec 1"), 4 * id);
            due("so many", x.lines(), id);
            due("faulty", Checks.take(x, "99 sort bitvec 7"), -4);
            due("as many", x.lines(), id);
        }
        due("full", Checks.take(x, "90 sort bitvec 1"), -100);
        due("still 20", x.lines(), 20);
        x.begin(0);
        x.find(3);
        due("still 20", x.lines(), 20);
    }

    // Promise 5

    private static void beginsInPlace() {
        CHECK.sentence("Begins a run by hand (in place of one that is on");
        WordChecker x = busy();
        runIsOn("before", x);
        x.begin(0);
        due("at step 0", x.value(4), 1);
        due("chosen anew", x.value(12), 0);
        due("no input", x.value(11), 0);
        x.step();
        x.step();
        x.begin(1);
        due("at step 0 again", x.value(4), 1);
        due("chosen again", x.value(12), 1);
    }

    private static void beginKeepsKept() {
        CHECK.sentence("what is kept stays)");
        WordChecker x = busy();
        isKept("before", x);
        x.begin(0);
        isKept("after begin", x);
        x.feed(1);
        x.step();
        isKept("after feed and step", x);
    }

    private static void beginsWithInputs0() {
        CHECK.sentence("at step 0, with all inputs 0");
        WordChecker x = with("1 sort bitvec 1", "2 input 1", "3 input 1", "4 state 1");
        x.begin(-1);
        due("the first input", x.value(2), 0);
        due("the second input", x.value(3), 0);
        x.feed(3);
        x.begin(-1);
        due("the first input again", x.value(2), 0);
        due("the second input again", x.value(3), 0);
    }

    private static final String[] CHOICE = {
        "1 sort bitvec 1", "2 sort bitvec 2", "3 sort array 1 1", "4 constd 1 1", "5 state 1", "6 state 3", "7 state 1",
        "8 state 2", "9 init 1 7 4"
    };

    private static void chosenStates() {
        CHECK.sentence("the chosen states, in the order of their lines, take their bits from x, "
            + "the first one the lowest bits, the next one those above, and so on");
        WordChecker x = with(CHOICE);
        for (int bits = 0; bits < 32; bits++) {
            x.begin(bits);
            due("the first one, " + bits, x.value(5), bits & 1);
            due("the next one, " + bits, x.value(6), bits >> 1 & 3);
            due("one with init, " + bits, x.value(7), 1);
            due("the last one, " + bits, x.value(8), bits >> 3);
        }
        WordChecker all = with("1 sort bitvec 1", "2 constd 1 0", "3 state 1", "4 init 1 3 2");
        all.begin(-1);
        due("none is chosen", all.value(3), 0);
    }

    private static void otherBitsOfBegin() {
        CHECK.sentence("(others do not count)");
        WordChecker x = with(CHOICE);
        int[] words = {32, 0x7FFFFFE0, -32, Integer.MIN_VALUE, 64, 0x10000};
        for (int word : words) {
            for (int bits = 0; bits < 32; bits += 31) {
                x.begin(word | bits);
                due("the first one, " + word, x.value(5), bits & 1);
                due("the next one, " + word, x.value(6), bits & 3);
                due("one with init, " + word, x.value(7), 1);
                due("the last one, " + word, x.value(8), bits & 3);
            }
        }
        WordChecker behind = with("1 sort bitvec 1", "2 constd 1 0", "3 state 1", "4 state 1", "5 init 1 4 2");
        behind.begin(-1);
        due("the only one that is chosen", behind.value(3), 1);
        due("one with init behind it", behind.value(4), 0);
        WordChecker six = with("1 sort bitvec 3", "2 state 1", "3 state 1");
        six.begin(64);
        due("bit 6: the first one", six.value(2), 0);
        due("bit 6: the second one", six.value(3), 0);
        six.begin(-65);
        due("all but bit 6: the first one", six.value(2), 7);
        due("all but bit 6: the second one", six.value(3), 7);
    }

    // Promise 6

    private static void feedsInOrder() {
        CHECK.sentence("The inputs of the present step, in the order of their lines, take their bits from y");
        WordChecker x = with("1 sort bitvec 1", "2 input 1", "3 state 1", "4 input 1", "5 and 1 2 4");
        for (int y = 0; y < 4; y++) {
            x.begin(0);
            due("feed(" + y + ")", x.feed(y), true);
            due("the first one", x.value(2), y & 1);
            due("the second one", x.value(4), y >> 1);
            due("a node of both", x.value(5), y == 3 ? 1 : 0);
            due("a state is not fed", x.value(3), 0);
        }
        due("feed(1) in place of 3", x.feed(1), true);
        due("the second one is 0", x.value(4), 0);
        WordChecker two = with("1 sort bitvec 2", "2 input 1");
        two.begin(0);
        for (int y = 0; y < 4; y++) {
            due("feed(" + y + ")", two.feed(y), true);
            due("one of two bits", two.value(2), y);
        }
        WordChecker none = with("1 sort bitvec 1", "2 state 1");
        none.begin(1);
        due("feed without inputs", none.feed(-1), true);
        due("the state", none.value(2), 1);
    }

    private static void otherBitsOfFeed() {
        CHECK.sentence("take their bits from y in the same way");
        WordChecker one = with("1 sort bitvec 1", "2 input 1", "3 state 1", "4 next 1 3 2");
        one.begin(0);
        int[] words = {2, -2, 4, 0x7FFFFFFE, Integer.MIN_VALUE};
        for (int word : words) {
            due("feed(" + word + ")", one.feed(word), true);
            due("its lowest bit", one.value(2), 0);
            due("feed(" + word + " + 1)", one.feed(word + 1), true);
            due("its lowest bit", one.value(2), 1);
        }
        one.step();
        due("the state after", one.value(3), 1);
        WordChecker two = with("1 sort bitvec 1", "2 input 1", "3 input 1");
        two.begin(0);
        due("feed(4)", two.feed(4), true);
        due("the first one", two.value(2), 0);
        due("the second one", two.value(3), 0);
        due("feed(-3)", two.feed(-3), true);
        due("the first one", two.value(2), 1);
        due("the second one", two.value(3), 0);
    }

    private static void feedsWithoutRun() {
        CHECK.sentence("false if there is no run by hand");
        WordChecker x = with("1 sort bitvec 1", "2 input 1", "3 bad 2");
        due("before begin", x.feed(1), false);
        due("find(0)", x.find(0), 0);
        due("what is kept is no run by hand", x.feed(1), false);
        x.begin(0);
        due("what was fed before begin", x.value(2), 0);
        due("after begin", x.feed(1), true);
        line(x, "4 bad 9", -3);
        due("after a faulty line", x.feed(1), true);
        line(x, "4 bad 2", 4);
        due("after a line", x.feed(1), false);
        x.begin(0);
        due("after begin again", x.value(2), 0);
    }

    // Promise 7

    private static void stepsWithInputs0() {
        CHECK.sentence("The run by hand goes on to the next step, with all inputs 0");
        WordChecker x = with("1 sort bitvec 1", "2 input 1", "3 input 1", "4 state 1", "5 next 1 4 3");
        x.begin(0);
        x.feed(3);
        due("step()", x.step(), true);
        due("the state has what was put in", x.value(4), 1);
        due("the first input", x.value(2), 0);
        due("the second input", x.value(3), 0);
        due("step() again", x.step(), true);
        due("the state has 0 that was put in", x.value(4), 0);
    }

    private static void stepsAgainstConstraints() {
        CHECK.sentence("(constraints do not matter)");
        WordChecker x = with("1 sort bitvec 1", "2 constd 1 0", "3 constraint 2", "4 state 1", "5 next 1 4 -4",
            "6 bad 4");
        x.begin(0);
        due("begin", x.value(4), 0);
        due("feed(0)", x.feed(0), true);
        for (int t = 1; t <= 9; t++) {
            due("step()", x.step(), true);
            due("state at " + t, x.value(4), t % 2);
        }
    }

    private static void stepsWithoutRun() {
        CHECK.sentence("false if there is none");
        WordChecker x = with("1 sort bitvec 1", "2 state 1", "3 next 1 2 -2", "4 bad -2");
        due("before begin", x.step(), false);
        due("find(0)", x.find(0), 0);
        due("what is kept is no run by hand", x.step(), false);
        x.begin(0);
        due("no step was gone", x.value(2), 0);
        due("after begin", x.step(), true);
        line(x, "5 bad 9", -3);
        due("after a faulty line", x.step(), true);
        due("two steps", x.value(2), 0);
        line(x, "5 bad 2", 5);
        due("after a line", x.step(), false);
    }

    // A RUN

    private static void nextValues() {
        CHECK.sentence("At the step after each state has the value that its next has at this step");
        WordChecker x = with("1 sort bitvec 3", "2 state 1", "3 state 1", "4 next 1 2 3", "5 next 1 3 2");
        x.begin(0b110_001);
        due("step()", x.step(), true);
        due("both go on at once: the first", x.value(2), 6);
        due("both go on at once: the second", x.value(3), 1);
        WordChecker y = with("1 sort bitvec 3", "2 constd 1 7", "3 state 1", "4 add 1 3 -2", "5 sub 1 3 2",
            "6 next 1 3 5", "7 init 1 3 2");
        y.begin(0);
        for (int t = 0; t < 20; t++) {
            due("mod 8 at step " + t, y.value(3), (7 + t) % 8);
            due("nothing is added", y.value(4), (7 + t) % 8);
            y.step();
        }
    }

    private static void keepsItsValue() {
        CHECK.sentence("without next it keeps its value");
        WordChecker x = with("1 sort bitvec 1", "2 sort array 1 1", "3 constd 1 1", "4 state 2", "5 state 1",
            "6 state 1", "7 init 1 6 3", "8 next 1 5 -5");
        x.begin(0b0_10);
        for (int t = 0; t < 5; t++) {
            due("a chosen one", x.value(4), 2);
            due("one with next", x.value(5), t % 2);
            due("one with init", x.value(6), 1);
            x.feed(-1);
            x.step();
        }
    }

    // Promise 8

    private static void valueWithoutRun() {
        CHECK.sentence("-1 if there is no such run");
        WordChecker x = with("1 sort bitvec 1", "2 constd 1 1", "3 input 1", "4 bad 2");
        due("before begin", x.value(2), -1);
        due("find(0)", x.find(0), 0);
        due("what is kept is no run by hand", x.value(2), -1);
        x.begin(0);
        due("after begin", x.value(2), 1);
        line(x, "5 not 1 2", 5);
        due("after a line", x.value(2), -1);
        due("of the new line", x.value(5), -1);
        x.begin(0);
        due("after begin again", x.value(2), 1);
        due("of the new line", x.value(5), 0);
    }

    private static void valueWithoutNode() {
        CHECK.sentence("-1 if there is no such run or node");
        WordChecker x = with("10 sort bitvec 1", "20 constd 10 1", "30 state 10", "40 init 10 30 20",
            "50 next 10 30 30", "60 bad 30", "70 constraint 30", "99 input 10");
        x.begin(0);
        for (int id = -100; id <= 200; id++) {
            int want = id == 20 || id == 30 ? 1 : id == 99 ? 0 : -1;
            due("value(" + id + ")", x.value(id), want);
        }
        due("least", x.value(Integer.MIN_VALUE), -1);
        due("greatest", x.value(Integer.MAX_VALUE), -1);
        due("256 more", x.value(276), -1);
    }
}
