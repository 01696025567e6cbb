/** The edges of "FINDING" and "PROVING" and of promises 9 to 11: a test for each sentence. */
public final class SearchEdgeTest {
    private static final Checks CHECK = new Checks();

    /** Some three bits, 4, and numbers to compare it with; the tests say how it goes on. */
    private static final String[] NUMBERS = {
        "1 sort bitvec 1", "2 sort bitvec 3", "3 constd 2 0", "4 state 2", "5 constd 2 1"
    };

    public static void main(String[] args) {
        leastSteps();
        allBits();
        manyStates();
        someBad();
        chosenAtStep0();
        constraintAtAllSteps();
        constraintBehindIsFree();
        statesBeforeInputs();
        statesInOrder();
        highestBitFirst();
        elementOneFirst();
        initIsNoBit();
        inputsInOrder();
        inputsHighestBitFirst();
        stepsInOrder();
        leastOfAll();
        noneFound();
        findRefused();
        foundInPlace();
        shownWithoutRun();
        shownWithoutStep();
        shownWithoutNode();
        shownIsNoRunByHand();
        provesFinding();
        provesByNoStretch();
        provesNothing();
        keptByProving();
        proveRefused();
        stretchFromAnyState();
        stretchOfAllLengths();
        stretchOfDifferentSteps();
        differentInOneState();
        stretchWithConstraints();
        stretchIsNotBadBefore();
        CHECK.end();
    }

    private static WordChecker with(String... lines) {
        return CHECK.with(lines);
    }

    private static void line(WordChecker x, String text, int want) {
        CHECK.line(x, text, want);
    }

    private static void due(String call, long got, long want) {
        CHECK.due(call, got, want);
    }

    /** From that number on, one more at each step, and bad at the other one. */
    private static WordChecker counter(int from, int to, String... more) {
        String[] lines = {
            "10 constd 2 " + from, "11 init 2 4 10", "12 add 2 4 5", "13 next 2 4 12", "14 constd 2 " + to,
            "15 eq 1 4 14", "16 bad 15"
        };
        return with(Samples.both(Samples.both(NUMBERS, lines), more));
    }

    // FINDING

    private static void leastSteps() {
        CHECK.sentence("the least d from 0 to k for which there is a run of the steps 0 .. d that is bad at d");
        for (int from = 0; from < 8; from++) {
            for (int to = 0; to < 8; to++) {
                WordChecker x = counter(from, to);
                int d = (to - from + 8) % 8;
                for (int k = 0; k <= 3; k++) {
                    due("from " + from + " to " + to + " with " + k, x.find(k), d <= k ? d : -1);
                }
            }
        }
        WordChecker often = with("1 sort bitvec 1", "2 state 1", "3 constd 1 0", "4 init 1 2 3", "5 next 1 2 -2",
            "6 bad 2");
        due("bad at 1 and at 3", often.find(3), 1);
        due("one step behind step 0", often.shown(1, 2), 1);
        due("no more", often.shown(2, 2), -1);
    }

    private static void allBits() {
        CHECK.sentence("All states together have at most 6 bits");
        // Bad is the last value of all 6 bits of states and 2 bits of inputs alone.
        String[] lines = {
            "1 sort bitvec 1", "2 sort bitvec 2", "3 sort bitvec 3", "4 state 3", "5 state 3", "6 input 2",
            "7 constd 3 7",
            "8 eq 1 4 7", "9 eq 1 5 7", "10 constd 2 3", "11 eq 1 6 10", "12 and 1 8 9", "13 and 1 11 12", "14 bad 13"
        };
        WordChecker x = with(lines);
        due("find(0)", x.find(0), 0);
        due("the first state", x.shown(0, 4), 7);
        due("the second state", x.shown(0, 5), 7);
        due("the input", x.shown(0, 6), 3);
        WordChecker y = with(Samples.both(lines, "15 constd 3 0", "16 init 3 5 15", "17 next 3 5 -15"));
        due("at step 1", y.find(3), 1);
        due("the first state at step 0", y.shown(0, 4), 7);
        due("the second state at step 0", y.shown(0, 5), 0);
        due("the input at step 0", y.shown(0, 6), 0);
        due("the input at step 1", y.shown(1, 6), 3);
        line(y, "18 init 3 4 15", 18);
        due("none is found", y.find(3), -1);
        due("but there is a stretch to it", y.prove(0), 0);
        // The state goes from 1 to 2, which is bad, if the two bits of the input are 1, and else stays.
        WordChecker z = with("1 sort bitvec 1", "2 sort bitvec 2", "3 state 2", "4 input 2", "5 constd 2 0",
            "6 init 2 3 5",
            "7 constd 2 3", "8 eq 1 4 7", "9 constd 2 1", "10 eq 1 3 9", "11 and 1 8 10", "12 ite 2 11 -9 3",
            "13 next 2 3 12", "14 constd 2 2", "15 eq 1 3 14", "16 bad 15");
        due("none is found", z.find(3), -1);
        due("by the last value of the input", z.prove(0), 0);
        due("and by no other", z.prove(1), 1);
    }

    private static void manyStates() {
        CHECK.sentence("All states together have at most 6 bits (an array has 2 * its elements' width)");
        // The second one is 0 or 4, and goes to 0; the first one waits for that, and goes from 1 to 2 then.
        WordChecker x = with("1 sort bitvec 1", "2 sort bitvec 3", "3 state 2", "4 state 2", "5 constd 2 0",
            "6 constd 2 1",
            "7 constd 2 2", "8 init 2 3 5", "9 init 2 4 5", "10 next 2 4 5", "11 sub 2 3 6", "12 or 2 11 4",
            "13 redor 1 12", "14 ite 2 13 3 7", "15 next 2 3 14", "16 eq 1 3 7", "17 bad 16", "18 sll 2 4 6",
            "19 redor 1 18", "20 constraint -19");
        due("none is found", x.find(3), -1);
        due("1 and 0, 2 and 0", x.prove(0), 0);
        due("1 and 4, 1 and 0, 2 and 0", x.prove(1), 0);
        due("nothing goes to 1 and 4", x.prove(2), 1);
    }

    private static void someBad() {
        CHECK.sentence("A run is bad at a step if some bad has the value 1 then.");
        WordChecker x = counter(0, 3, "17 constd 2 2", "18 eq 1 4 17", "19 bad 18");
        due("the second one is 1 before", x.find(3), 2);
        due("bounded by 1", x.find(1), -1);
        WordChecker y = counter(0, 1, "17 constd 2 2", "18 eq 1 4 17", "19 bad 18");
        due("the first one is 1 before", y.find(3), 1);
        WordChecker none = with("1 sort bitvec 1", "2 state 1", "3 input 1");
        due("no bad", none.find(3), -1);
        WordChecker always = with("1 sort bitvec 1", "2 constd 1 1", "3 bad 2", "4 bad -2");
        due("one of two", always.find(0), 0);
        WordChecker both = with("1 sort bitvec 1", "2 constd 1 1", "3 bad 2", "4 bad 2");
        due("both of two", both.find(0), 0);
        WordChecker two = with("1 sort bitvec 1", "2 state 1", "3 bad 2", "4 bad -2");
        due("now this one, now that", two.find(0), 0);
        due("the least run", two.shown(0, 2), 0);
    }

    private static void chosenAtStep0() {
        CHECK.sentence("at step 0 each state has its init value; one without init any value (it is CHOSEN)");
        String[] lines = {"1 sort bitvec 1", "2 sort bitvec 2", "3 state 2", "4 constd 2 1", "5 constd 2 3",
            "6 eq 1 3 5", "7 bad 6"};
        WordChecker x = with(lines);
        due("any value", x.find(0), 0);
        due("the bad one", x.shown(0, 3), 3);
        line(x, "8 init 2 3 4", 8);
        due("its init value", x.find(3), -1);
        WordChecker y = with(Samples.both(lines, "8 init 2 3 5"));
        due("its init value is bad", y.find(0), 0);
    }

    private static void constraintAtAllSteps() {
        CHECK.sentence("(each constraint has 1 at all steps 0 .. d)");
        for (int not = 0; not < 8; not++) {
            WordChecker x = counter(1, 4, "17 constd 2 " + not, "18 eq 1 4 17", "19 constraint -18");
            boolean met = not >= 1 && not <= 4;
            due("a constraint that is 0 at " + not, x.find(3), met ? -1 : 3);
        }
        due("the first of two is 0", counter(1, 4, "17 constd 1 0", "18 constraint 17", "19 constraint -17").find(3),
            -1);
        due("the second of two is 0", counter(1, 4, "17 constd 1 0", "18 constraint -17", "19 constraint 17").find(3),
            -1);
        due("both are 1", counter(1, 4, "17 constd 1 1", "18 constraint 17", "19 constraint 17").find(3), 3);
        WordChecker atOnce = with("1 sort bitvec 1", "2 input 1", "3 bad 2", "4 constraint -2");
        due("at the step that is bad", atOnce.find(3), -1);
    }

    private static void constraintBehindIsFree() {
        CHECK.sentence("a run of the steps 0 .. d that is bad at d (each constraint has 1 at all steps 0 .. d)");
        WordChecker x = counter(1, 2, "17 constd 2 3", "18 ult 1 4 17", "19 constraint 18");
        due("a constraint is 0 from step 2 on", x.find(3), 1);
        WordChecker y = counter(1, 3, "17 constd 2 3", "18 ult 1 4 17", "19 constraint 18");
        due("it is 0 where it would be bad", y.find(3), -1);
    }

    private static void statesBeforeInputs() {
        CHECK.sentence("its bits in order are those of the chosen states at step 0");
        WordChecker x = with("1 sort bitvec 1", "2 input 1", "3 state 1", "4 xor 1 2 3", "5 bad 4");
        due("find(0)", x.find(0), 0);
        due("the state, though its line is behind", x.shown(0, 3), 0);
        due("the input", x.shown(0, 2), 1);
    }

    private static void statesInOrder() {
        CHECK.sentence("the states in the order of their lines");
        WordChecker x = with("1 sort bitvec 1", "2 state 1", "3 state 1", "4 state 1", "5 xor 1 2 3", "6 xor 1 5 4",
            "7 bad 6");
        due("find(0)", x.find(0), 0);
        due("the first", x.shown(0, 2), 0);
        due("the second", x.shown(0, 3), 0);
        due("the third", x.shown(0, 4), 1);
        line(x, "8 constraint -4", 8);
        due("find(0)", x.find(0), 0);
        due("the first", x.shown(0, 2), 0);
        due("the second", x.shown(0, 3), 1);
        due("the third", x.shown(0, 4), 0);
    }

    private static void highestBitFirst() {
        CHECK.sentence("each from its highest bit on");
        // Bad are 3 and 4 (with higher bits 0 and 1), or 2 and 5, or 1 and 6: the lower one is due.
        for (int v = 1; v <= 3; v++) {
            WordChecker x = with(Samples.both(NUMBERS, "6 constd 2 " + v, "7 eq 1 4 6", "8 eq 1 4 -6", "9 or 1 7 8",
                "10 bad 9"));
            due("find(0)", x.find(0), 0);
            due("the less one", x.shown(0, 4), v);
        }
        WordChecker y = with(Samples.both(NUMBERS, "6 slice 1 4 0 0", "7 slice 1 4 2 2", "8 xor 1 6 7", "9 bad 8"));
        due("find(0)", y.find(0), 0);
        due("001 before 100", y.shown(0, 4), 1);
    }

    private static void elementOneFirst() {
        CHECK.sentence("(of an array element 1 first)");
        for (int w = 1; w <= 3; w++) {
            WordChecker x = with("1 sort bitvec 1", "2 sort bitvec " + w, "3 sort array 1 2", "4 state 3",
                "5 constd 1 0", "6 read 2 4 5", "7 read 2 4 -5", "8 xor 2 6 7", "9 slice 1 8 0 0", "10 bad 9");
            due("find(0), width " + w, x.find(0), 0);
            due("element 1 is 0, width " + w, x.shown(0, 7), 0);
            due("element 0 is 1, width " + w, x.shown(0, 6), 1);
            due("the array, width " + w, x.shown(0, 4), 1);
        }
        // Element 1's lowest bit comes before element 0's highest one.
        WordChecker y = with("1 sort bitvec 1", "2 sort bitvec 2", "3 sort array 1 2", "4 state 3", "5 constd 1 0",
            "6 read 2 4 5", "7 read 2 4 -5", "8 slice 1 6 1 1", "9 slice 1 7 0 0", "10 xor 1 8 9", "11 bad 10");
        due("find(0)", y.find(0), 0);
        due("element 1", y.shown(0, 7), 0);
        due("element 0", y.shown(0, 6), 2);
    }

    private static void initIsNoBit() {
        CHECK.sentence("those of the chosen states at step 0");
        WordChecker x = with("1 sort bitvec 1", "2 constd 1 1", "3 state 1", "4 state 1", "5 init 1 3 2", "6 xor 1 3 4",
            "7 input 1", "8 xor 1 6 7", "9 bad 8");
        due("find(0)", x.find(0), 0);
        due("one with init", x.shown(0, 3), 1);
        due("a chosen one", x.shown(0, 4), 0);
        due("the input", x.shown(0, 7), 0);
    }

    private static void inputsInOrder() {
        CHECK.sentence("then those of the inputs at step 0, in the order of their lines");
        WordChecker x = with("1 sort bitvec 1", "2 input 1", "3 input 1", "4 xor 1 2 3", "5 bad 4");
        due("find(0)", x.find(0), 0);
        due("the first", x.shown(0, 2), 0);
        due("the second", x.shown(0, 3), 1);
        line(x, "6 constraint -3", 6);
        due("find(0)", x.find(0), 0);
        due("the first", x.shown(0, 2), 1);
        due("the second", x.shown(0, 3), 0);
        WordChecker free = with("1 sort bitvec 2", "2 sort bitvec 1", "3 input 1", "4 constd 2 1", "5 bad 4");
        due("find(3)", free.find(3), 0);
        due("one that does not matter is 0", free.shown(0, 3), 0);
    }

    private static void inputsHighestBitFirst() {
        CHECK.sentence("in the order of their lines, each from its highest bit on, then at step 1, and so on");
        WordChecker x = with("1 sort bitvec 1", "2 sort bitvec 2", "3 input 2", "4 slice 1 3 1 1", "5 slice 1 3 0 0",
            "6 xor 1 4 5", "7 bad 6");
        due("find(0)", x.find(0), 0);
        due("01 before 10", x.shown(0, 3), 1);
        line(x, "8 constraint -5", 8);
        due("find(0)", x.find(0), 0);
        due("10 alone", x.shown(0, 3), 2);
    }

    private static void stepsInOrder() {
        CHECK.sentence("then at step 1, and so on");
        // The state goes on by 1, or by 2 if the input is 1.
        for (int to = 3; to <= 6; to++) {
            WordChecker x = with("1 sort bitvec 1", "2 sort bitvec 2", "3 sort bitvec 3", "4 input 1", "5 state 3",
                "6 constd 3 0", "7 init 3 5 6", "8 uext 2 4 1", "9 constd 2 1", "10 add 2 8 9", "11 uext 3 10 1",
                "12 add 3 5 11", "13 next 3 5 12", "14 constd 3 " + to, "15 eq 1 5 14", "16 bad 15");
            int d = (to + 1) / 2;
            due("find(3) for " + to, x.find(3), d);
            int twos = to - d;
            for (int t = 0; t <= d; t++) {
                due("input at step " + t, x.shown(t, 4), t < d && t >= d - twos ? 1 : 0);
            }
        }
    }

    private static void leastOfAll() {
        CHECK.sentence("of two runs the one is less that has a 0 where they differ first");
        // The state at step 0 comes before all inputs: 0 with the input 1, not 1 with the input 0.
        WordChecker x = with("1 sort bitvec 1", "2 state 1", "3 state 1", "4 input 1", "5 constd 1 0", "6 init 1 3 5",
            "7 xor 1 2 4", "8 next 1 3 7", "9 bad 3");
        due("find(3)", x.find(3), 1);
        due("the chosen state", x.shown(0, 2), 0);
        due("the input at step 0", x.shown(0, 4), 1);
        due("the input at step 1", x.shown(1, 4), 0);
        // An input at step 0 comes before one at step 1.
        WordChecker y = with("1 sort bitvec 1", "2 state 1", "3 input 1", "4 constd 1 0", "5 init 1 2 4",
            "6 next 1 2 3",
            "7 state 1", "8 init 1 7 4", "9 constd 1 1", "10 next 1 7 9", "11 xor 1 2 3", "12 and 1 7 11", "13 bad 12");
        due("find(3)", y.find(3), 1);
        due("the input at step 0", y.shown(0, 3), 0);
        due("the input at step 1", y.shown(1, 3), 1);
    }

    // Promise 9

    private static void noneFound() {
        CHECK.sentence("-1 if there is none (and nothing is kept then)");
        WordChecker x = counter(0, 2);
        due("find(2)", x.find(2), 2);
        due("kept", x.shown(0, 4), 0);
        due("find(1)", x.find(1), -1);
        for (int t = -1; t <= 4; t++) {
            due("nothing is kept at " + t, x.shown(t, 4), -1);
            due("nor a constant at " + t, x.shown(t, 5), -1);
        }
        due("find(0)", x.find(0), -1);
        due("find(3)", x.find(3), 2);
        due("kept again", x.shown(2, 4), 2);
    }

    private static void findRefused() {
        CHECK.sentence("-2, refused (what is kept stays), if k is not 0 .. 3");
        WordChecker x = counter(0, 2);
        int[] wrong = {-1, 4, -2, 5, 256, 1 << 16, Integer.MIN_VALUE, Integer.MAX_VALUE};
        for (int k : wrong) {
            due("find(" + k + ")", x.find(k), -2);
            due("nothing is kept", x.shown(0, 4), -1);
        }
        due("find(3)", x.find(3), 2);
        for (int k : wrong) {
            due("find(" + k + ")", x.find(k), -2);
            due("what is kept stays at 0", x.shown(0, 4), 0);
            due("what is kept stays at 2", x.shown(2, 4), 2);
        }
        due("find(0)", x.find(0), -1);
        due("find(4)", x.find(4), -2);
        due("nothing stays", x.shown(0, 4), -1);
        due("k = 3", counter(0, 3).find(3), 3);
        due("k = 0", counter(0, 0).find(0), 0);
    }

    private static void foundInPlace() {
        CHECK.sentence("Finding: d, and the least run is kept");
        for (int d = 0; d <= 3; d++) {
            WordChecker x = counter(1, 1 + d);
            due("find(3)", x.find(3), d);
            for (int t = 0; t <= 4; t++) {
                due("kept at " + t + " of " + d, x.shown(t, 4), t <= d ? 1 + t : -1);
            }
            due("again", x.find(d), d);
            due("kept again", x.shown(d, 4), 1 + d);
        }
    }

    // Promise 10

    private static void shownWithoutRun() {
        CHECK.sentence("-1 if there is no such run");
        WordChecker x = counter(0, 1);
        due("before find", x.shown(0, 4), -1);
        x.begin(0);
        due("a run by hand is not kept", x.shown(0, 4), -1);
        due("find(1)", x.find(1), 1);
        due("kept", x.shown(1, 4), 1);
        line(x, "90 not 2 4", 90);
        due("after a line", x.shown(1, 4), -1);
        due("of the new line", x.shown(0, 90), -1);
        due("find(1)", x.find(1), 1);
        due("of the new line", x.shown(0, 90), 7);
    }

    private static void shownWithoutStep() {
        CHECK.sentence("-1 if there is no such run, step");
        for (int d = 0; d <= 3; d++) {
            WordChecker x = counter(0, d);
            due("find(3)", x.find(3), d);
            for (int t = -5; t <= 9; t++) {
                due("step " + t + " of 0 .. " + d, x.shown(t, 4), t >= 0 && t <= d ? t : -1);
            }
            due("least", x.shown(Integer.MIN_VALUE, 4), -1);
            due("greatest", x.shown(Integer.MAX_VALUE, 4), -1);
        }
        WordChecker shorter = with("1 sort bitvec 1", "2 state 1", "3 bad 2", "4 constd 1 0", "5 init 1 2 4",
            "6 next 1 2 -2");
        due("find(3)", shorter.find(3), 1);
        due("step 1", shorter.shown(1, 2), 1);
        line(shorter, "7 bad -2", 7);
        due("find(3), bad at once", shorter.find(3), 0);
        due("step 0", shorter.shown(0, 2), 0);
        due("step 1 is not there any more", shorter.shown(1, 2), -1);
    }

    private static void shownWithoutNode() {
        CHECK.sentence("-1 if there is no such run, step or node");
        WordChecker x = with("10 sort bitvec 1", "20 constd 10 1", "30 state 10", "40 init 10 30 20",
            "50 next 10 30 30", "60 bad 30", "70 constraint 30", "99 input 10");
        due("find(0)", x.find(0), 0);
        for (int id = -100; id <= 200; id++) {
            int want = id == 20 || id == 30 ? 1 : id == 99 ? 0 : -1;
            due("shown(0, " + id + ")", x.shown(0, id), want);
        }
        due("least", x.shown(0, Integer.MIN_VALUE), -1);
        due("greatest", x.shown(0, Integer.MAX_VALUE), -1);
    }

    private static void shownIsNoRunByHand() {
        CHECK.sentence("The value of the node with that ID at a step of the run that is kept");
        WordChecker x = with("1 sort bitvec 1", "2 state 1", "3 input 1", "4 and 1 2 3", "5 bad 4", "6 xor 1 2 3");
        due("find(0)", x.find(0), 0);
        x.begin(0);
        due("by hand: the state", x.value(2), 0);
        due("by hand: the input", x.value(3), 0);
        due("kept: the state", x.shown(0, 2), 1);
        due("kept: the input", x.shown(0, 3), 1);
        due("kept: a node", x.shown(0, 6), 0);
        x.feed(1);
        due("by hand: a node", x.value(6), 1);
        due("kept: a node", x.shown(0, 6), 0);
        due("find(0) beside the run by hand", x.find(0), 0);
        due("by hand: the input", x.value(3), 1);
        due("by hand: the state", x.value(2), 0);
    }

    // PROVING and promise 11

    private static void provesFinding() {
        CHECK.sentence("2 if finding with k finds something");
        for (int d = 0; d <= 3; d++) {
            WordChecker x = counter(0, d);
            for (int k = 0; k <= 2; k++) {
                due("bad at " + d + ", prove(" + k + ")", x.prove(k) == 2 ? 1 : 0, d <= k ? 1 : 0);
            }
        }
    }

    private static void provesByNoStretch() {
        CHECK.sentence("else 1 if there is no STRETCH");
        for (int k = 0; k <= 2; k++) {
            due("no lines, prove(" + k + ")", new WordChecker().prove(k), 1);
            due("no bad, prove(" + k + ")", with("1 sort bitvec 1", "2 state 1", "3 next 1 2 -2").prove(k), 1);
            due("a bad that is 0, prove(" + k + ")",
                with("1 sort bitvec 1", "2 state 1", "3 constd 1 0", "4 bad 3", "5 next 1 2 -2").prove(k), 1);
        }
    }

    private static void provesNothing() {
        CHECK.sentence("else 0");
        WordChecker x = counter(0, 7);
        for (int k = 0; k <= 2; k++) {
            due("from any value to 7, prove(" + k + ")", x.prove(k), 0);
        }
    }

    private static void keptByProving() {
        CHECK.sentence("(what is kept becomes as by finding with k)");
        WordChecker x = counter(0, 2);
        x.begin(0);
        due("prove(2)", x.prove(2), 2);
        for (int t = 0; t <= 3; t++) {
            due("kept at " + t, x.shown(t, 4), t <= 2 ? t : -1);
        }
        due("the run by hand stays", x.value(4), 0);
        due("prove(1)", x.prove(1), 0);
        due("nothing is kept", x.shown(0, 4), -1);
        due("find(3)", x.find(3), 2);
        due("prove(0)", x.prove(0), 0);
        due("nothing is kept", x.shown(0, 4), -1);
        WordChecker y = with("1 sort bitvec 1", "2 input 1", "3 input 1", "4 xor 1 2 3", "5 bad 4");
        due("prove(0)", y.prove(0), 2);
        due("the least run: the first input", y.shown(0, 2), 0);
        due("the least run: the second input", y.shown(0, 3), 1);
        WordChecker proved = with("1 sort bitvec 1", "2 constd 1 0", "3 bad 2");
        due("prove(2)", proved.prove(2), 1);
        due("nothing is kept", proved.shown(0, 2), -1);
        WordChecker late = counter(0, 3);
        due("find(3)", late.find(3), 3);
        due("prove(2)", late.prove(2), 0);
        due("nothing is kept", late.shown(0, 4), -1);
    }

    private static void proveRefused() {
        CHECK.sentence("-2, refused, if k is not 0 .. 2");
        WordChecker x = counter(0, 2);
        int[] wrong = {-1, 3, -2, 4, 256, 1 << 16, Integer.MIN_VALUE, Integer.MAX_VALUE};
        for (int k : wrong) {
            due("prove(" + k + ")", x.prove(k), -2);
            due("nothing is kept", x.shown(0, 4), -1);
        }
        due("find(3)", x.find(3), 2);
        for (int k : wrong) {
            due("prove(" + k + ")", x.prove(k), -2);
            due("what is kept stays at 0", x.shown(0, 4), 0);
            due("what is kept stays at 2", x.shown(2, 4), 2);
        }
        due("prove(2)", x.prove(2), 2);
        due("prove(0)", x.prove(0), 0);
    }

    private static void stretchFromAnyState() {
        CHECK.sentence("but at step 0 each state (also one with init) has any value");
        // It keeps to 0 by itself; from 4 it goes on to 5, which is bad.
        WordChecker x = with(Samples.both(NUMBERS, "6 init 2 4 3", "7 constd 2 4", "8 eq 1 4 7", "9 constd 2 5",
            "10 ite 2 8 9 4", "11 next 2 4 10", "12 eq 1 4 9", "13 bad 12"));
        due("none is found", x.find(3), -1);
        due("4, 5 is a stretch", x.prove(0), 0);
        due("but nothing goes to 4", x.prove(1), 1);
        due("nor is there a longer one", x.prove(2), 1);
    }

    private static void stretchOfAllLengths() {
        CHECK.sentence("A stretch has steps 0 .. k + 1 like a run");
        // The way that ends with 7, which is bad, begins with the number from; others go to 0.
        for (int from = 3; from <= 7; from++) {
            WordChecker x = with(Samples.both(NUMBERS, "6 init 2 4 3", "7 constd 2 " + from, "8 add 2 4 5",
                "9 ult 1 4 7", "10 ite 2 9 3 8", "11 next 2 4 10", "12 constd 2 7", "13 eq 1 4 12", "14 bad 13"));
            due("none is found", x.find(3), -1);
            for (int k = 0; k <= 2; k++) {
                due(from + " .. 7, prove(" + k + ")", x.prove(k), 7 - from >= k + 1 ? 0 : 1);
            }
        }
        // It goes round, so that each number, 0 too, is once each of the steps of a stretch.
        for (int to = 0; to < 8; to++) {
            WordChecker x = counter((to + 1) % 8, to);
            for (int k = 0; k <= 2; k++) {
                due("round to " + to + ", prove(" + k + ")", x.prove(k), 0);
            }
        }
    }

    private static void stretchOfDifferentSteps() {
        CHECK.sentence("no two of its steps have the same values of all states");
        // 0 stays; 1 waits for the input and goes to 2 then, which is bad.
        WordChecker waits = with("1 sort bitvec 1", "2 sort bitvec 2", "3 input 1", "4 state 2", "5 constd 2 0",
            "6 init 2 4 5", "7 constd 2 1", "8 eq 1 4 7", "9 constd 2 2", "10 and 1 3 8", "11 ite 2 10 9 4",
            "12 next 2 4 11", "13 eq 1 4 9", "14 bad 13");
        due("1, 2", waits.prove(0), 0);
        due("1, 1, 2: steps 0 and 1 are the same", waits.prove(1), 1);
        due("1, 1, 1, 2", waits.prove(2), 1);
        twoTurns();
        // Without states all steps are the same.
        WordChecker none = with("1 sort bitvec 1", "2 input 1", "3 constd 1 0", "4 and 1 2 3", "5 bad 4");
        for (int k = 0; k <= 2; k++) {
            due("no states, prove(" + k + ")", none.prove(k), 1);
        }
        WordChecker stays = with("1 sort bitvec 1", "2 state 1", "3 constd 1 0", "4 init 1 2 3", "5 input 1",
            "6 and 1 2 5", "7 bad 6");
        for (int k = 0; k <= 2; k++) {
            due("a state that keeps its value, prove(" + k + ")", stays.prove(k), 1);
        }
    }

    /** From 0 the state stays; 1 and 2 go to each other, and 2 is bad if the input is 1. */
    private static void twoTurns() {
        WordChecker x = with("1 sort bitvec 1", "2 sort bitvec 2", "3 state 2", "4 constd 2 0", "5 init 2 3 4",
            "6 redor 1 3", "7 ite 2 6 -3 3", "8 next 2 3 7", "9 input 1", "10 constd 2 2", "11 eq 1 3 10",
            "12 and 1 11 9", "13 bad 12", "14 constd 2 3", "15 eq 1 3 14", "16 constraint -15");
        due("none is found", x.find(3), -1);
        due("1, 2", x.prove(0), 0);
        due("2, 1, 2: steps 0 and 2 are the same", x.prove(1), 1);
        due("1, 2, 1, 2", x.prove(2), 1);
    }

    private static void differentInOneState() {
        CHECK.sentence("the same values of all states");
        // Of two states the one stays, and the other turns over; bad is what no run meets: 1 and 1.
        WordChecker x = with("1 sort bitvec 1", "2 state 1", "3 state 1", "4 constd 1 0", "5 init 1 2 4",
            "6 next 1 3 -3", "7 and 1 2 3", "8 bad 7");
        due("none is found", x.find(3), -1);
        due("10, 11 differ in one state", x.prove(0), 0);
        due("11, 10, 11 is bad before, and not different", x.prove(1), 1);
        WordChecker y = with("1 sort bitvec 1", "2 sort array 1 1", "3 state 2", "4 state 1", "5 constd 1 0",
            "6 init 1 4 5", "7 read 1 3 5", "8 write 2 3 5 -7", "9 next 2 3 8", "10 and 1 4 7", "11 bad 10");
        due("arrays that differ in one element", y.prove(0), 0);
        due("two of three are the same", y.prove(1), 1);
    }

    private static void stretchWithConstraints() {
        CHECK.sentence("each constraint has 1 at all its steps");
        for (int k = 0; k <= 2; k++) {
            for (int not = 0; not < 8; not++) {
                WordChecker x = counter(0, 6, "17 constd 2 " + not, "18 eq 1 4 17", "19 constraint -18");
                boolean met = not <= 6 && not >= 5 - k;
                due("a constraint that is 0 at " + not + ", prove(" + k + ")", x.prove(k), met ? 1 : 0);
            }
        }
        due("the first of two is 0", counter(0, 6, "17 constd 1 0", "18 constraint 17", "19 constraint -17").prove(0),
            1);
        due("the second of two is 0", counter(0, 6, "17 constd 1 0", "18 constraint -17", "19 constraint 17").prove(0),
            1);
        WordChecker atEnd = with("1 sort bitvec 1", "2 state 1", "3 constd 1 0", "4 init 1 2 3", "5 input 1",
            "6 or 1 2 5", "7 next 1 2 6", "8 constraint -5", "9 bad 2");
        due("the input may not be 1", atEnd.prove(0), 1);
    }

    private static void stretchIsNotBadBefore() {
        CHECK.sentence("none of the steps 0 .. k is bad, step k + 1 is");
        // From low on it counts up, from below it goes to 0 and stays; all numbers from bad on are bad.
        for (int low = 1; low <= 7; low++) {
            for (int bad = low; bad <= 7; bad++) {
                WordChecker x = with(Samples.both(NUMBERS, "6 init 2 4 3", "7 constd 2 " + low, "8 add 2 4 5",
                    "9 ult 1 4 7", "10 ite 2 9 3 8", "11 next 2 4 10", "12 constd 2 " + bad, "13 ult 1 4 12",
                    "14 bad -13"));
                for (int k = 0; k <= 2; k++) {
                    due(low + " .. " + bad + ", prove(" + k + ")", x.prove(k), bad - low >= k + 1 ? 0 : 1);
                }
            }
        }
        // Each number but 0 is bad if the input is 1: it can be 0 before the last step.
        WordChecker y = with(Samples.both(NUMBERS, "6 init 2 4 3", "7 redor 1 4", "8 add 2 4 5", "9 ite 2 7 8 4",
            "10 next 2 4 9", "11 input 1", "12 and 1 7 11", "13 bad 12"));
        for (int k = 0; k <= 2; k++) {
            due("bad by an input, prove(" + k + ")", y.prove(k), 0);
        }
    }
}
