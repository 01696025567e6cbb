/** For each promise of the document: ordinary inputs, the edges that it names, and wrong inputs. */
public final class PromiseTest {
    private static final Checks CHECKS = new Checks();

    private static void due(String call, long got, long want) {
        CHECKS.due(call, got, want);
    }

    private static void due(String call, boolean got, boolean want) {
        CHECKS.due(call, got, want);
    }

    private static WordChecker with(String... lines) {
        return CHECKS.with(lines);
    }

    private static void line(WordChecker x, String text, int want) {
        CHECKS.line(x, text, want);
    }

    public static void main(String[] args) {
        newObject();
        typing();
        typingLimits();
        ids();
        sorts();
        kindsAndLengths();
        sortWords();
        nodeWords();
        numberWords();
        joiningWords();
        arrayWords();
        initAndNext();
        limitsOfBits();
        limitOfHardLines();
        limitOfLines();
        lineEndsRunAndKept();
        numberOfLines();
        beginning();
        beginKeepsWhatIsKept();
        feeding();
        stepping();
        valuesOfOneNode();
        valuesOfTwoNodes();
        valuesOfOtherKinds();
        valuesOfArrays();
        values();
        finding();
        leastRun();
        leastRunOfStates();
        findingWithConstraints();
        findingRefused();
        showing();
        proving();
        provingNeedsDifferentSteps();
        provingWithConstraints();
        provingRefused();
        CHECKS.end();
    }

    // Promise 1

    private static void newObject() {
        WordChecker x = new WordChecker();
        due("new: lines()", x.lines(), 0);
        due("new: value(1)", x.value(1), -1);
        due("new: feed(0)", x.feed(0), false);
        due("new: step()", x.step(), false);
        due("new: shown(0, 1)", x.shown(0, 1), -1);
        due("new: line()", x.line(), -1);
        due("new: find(3)", x.find(3), -1);
        due("new: prove(2)", x.prove(2), 1);
        x.begin(-1);
        due("new: feed in a run", x.feed(-1), true);
        due("new: step in a run", x.step(), true);
        due("new: value(0) in a run", x.value(0), -1);
    }

    // Promise 2

    private static void typing() {
        WordChecker x = new WordChecker();
        due("type 1", x.type('1', 1), true);
        due("type ' sor', bytes above do not count", x.type(Checks.pack(" sor"), 4), true);
        due("type 't '", x.type(0x0700_0000 | Checks.pack("t "), 2), true);
        due("type 'bit'", x.type(0xFF00_0000 | Checks.pack("bit"), 3), true);
        due("type 'vec '", x.type(Checks.pack("vec "), 4), true);
        due("type '2'", x.type(Checks.pack("xyz2"), 1), true);
        due("line()", x.line(), 1);
        line(x, "2 input 1", 2);
        due("n = 0", x.type('3', 0), false);
        due("n = 5", x.type('3', 5), false);
        due("n = 5, all bytes good", x.type(Checks.pack("    "), 5), false);
        due("n = -1", x.type('3', -1), false);
        due("n least", x.type('3', Integer.MIN_VALUE), false);
        due("n greatest", x.type('3', Integer.MAX_VALUE), false);
        due("31 is refused", x.type(31, 1), false);
        due("127 is refused", x.type(127, 1), false);
        due("255 is refused", x.type(-1, 4), false);
        due("0 is refused, with three good ones", x.type(0x3320_0033, 4), false);
        due("0 as the first one", x.type('3', 2), false);
        due("126 is typed", x.type(126, 1), true);
        due("nothing refused was typed", x.line(), -1);
        due("32 is typed", x.type(32, 1), true);
        line(x, "3 not 1 2", 3);
    }

    private static void typingLimits() {
        WordChecker x = new WordChecker();
        String line = "1 sort bitvec 2";
        Checks.type(x, line);
        for (int i = line.length(); i < 38; i++) {
            due("space " + i, x.type(' ', 1), true);
        }
        due("41 characters are refused", x.type(Checks.pack(" 77"), 3), false);
        due("40 characters", x.type(Checks.pack("  "), 2), true);
        due("one more", x.type(' ', 1), false);
        due("the line of 40", x.line(), 1);
        due("room again", x.type(Checks.pack("2 in"), 4), true);
        line(x, "put 1", 2);
    }

    // Promise 3

    private static void ids() {
        WordChecker x = new WordChecker();
        line(x, "", -1);
        line(x, "   ", -1);
        line(x, "0 sort bitvec 1", -1);
        line(x, "01 sort bitvec 1", -1);
        line(x, "-1 sort bitvec 1", -1);
        line(x, "+1 sort bitvec 1", -1);
        line(x, "100 sort bitvec 1", -1);
        line(x, "1a sort bitvec 1", -1);
        line(x, "a", -1);
        line(x, "  5   sort  bitvec    1  ", 5);
        line(x, "5 sort bitvec 2", -1);
        line(x, "4 sort bitvec 2", -1);
        line(x, "8 foo", -2);
        line(x, "7 sort bitvec 2", 7);
        line(x, "99 sort bitvec 3", 99);
        line(x, "99 state 7", -1);
    }

    private static void sorts() {
        WordChecker x = new WordChecker();
        line(x, "1 sort", -3);
        line(x, "1 sort bits 1", -3);
        line(x, "1 sort bitvec", -4);
        line(x, "1 sort bitvec 0", -4);
        line(x, "1 sort bitvec 4", -4);
        line(x, "1 sort bitvec 01", -4);
        line(x, "1 sort bitvec -1", -4);
        line(x, "1 sort bitvec 1 1", -5);
        line(x, "1 sort bitvec 1", 1);
        line(x, "2 sort bitvec 3", 2);
        line(x, "3 sort array", -4);
        line(x, "3 sort array 2 1", -4);
        line(x, "3 sort array 9 1", -4);
        line(x, "3 sort array 1", -5);
        line(x, "3 sort array 1 9", -5);
        line(x, "3 sort array 1 -1", -5);
        line(x, "3 sort array 1 2 1", -6);
        line(x, "3 sort array 1 2", 3);
        line(x, "4 sort array 1 3", -5);
        line(x, "4 sort array 3 1", -4);
        line(x, "4 input 1", 4);
        line(x, "5 sort array 4 1", -4);
        line(x, "5 sort array 1 4", -5);
        line(x, "5 sort bitvec 2", 5);
        line(x, "6 sort array 1 5", 6);
    }

    private static void kindsAndLengths() {
        WordChecker x = with("1 sort bitvec 1", "2 input 1");
        line(x, "3", -2);
        line(x, "3 Sort bitvec 1", -2);
        line(x, "3 an 1 2 2", -2);
        line(x, "3 andd 1 2 2", -2);
        line(x, "3 sub,1 2 2", -2);
        line(x, "3 input", -3);
        line(x, "3 state 1 1", -4);
        line(x, "3 constd 1", -4);
        line(x, "3 constd 1 0 0", -5);
        line(x, "3 not 1 2 2", -5);
        line(x, "3 and 1 2", -5);
        line(x, "3 and 1 2 2 2", -6);
        line(x, "3 slice 1 2 0", -6);
        line(x, "3 slice 1 2 0 0 0", -7);
        line(x, "3 uext 1 2", -5);
        line(x, "3 ite 1 2 2", -6);
        line(x, "3 ite 1 2 2 2 2", -7);
        line(x, "3 bad", -3);
        line(x, "3 bad 2 2", -4);
        line(x, "3 constraint", -3);
        line(x, "3 constraint 2 2", -4);
        line(x, "3 bad a b c d e f g h i j k l m n o p", -3);
    }

    private static void sortWords() {
        WordChecker x = with("1 sort bitvec 1", "2 sort bitvec 2", "3 sort array 1 1", "4 state 3", "5 state 2");
        line(x, "6 input 3", -3);
        line(x, "6 input 4", -3);
        line(x, "6 input -1", -3);
        line(x, "6 input 9", -3);
        line(x, "6 constd 3 0", -3);
        line(x, "6 not 3 4", -3);
        line(x, "6 and 3 4 4", -3);
        line(x, "6 redor 2 5", -3);
        line(x, "6 eq 2 5 5", -3);
        line(x, "6 ult 2 5 5", -3);
        line(x, "6 slt 3 5 5", -3);
        line(x, "6 concat 3 5 5", -3);
        line(x, "6 slice 3 5 1 0", -3);
        line(x, "6 uext 3 5 0", -3);
        line(x, "6 sext 3 5 0", -3);
        line(x, "6 read 3 4 5", -3);
        line(x, "6 write 2 4 5 5", -3);
        line(x, "6 ite 5 5 5 5", -3);
        line(x, "6 init 4 4 4", -3);
        line(x, "6 next 5 5 5", -3);
    }

    private static void nodeWords() {
        WordChecker x = with("1 sort bitvec 1", "2 sort bitvec 2", "3 sort array 1 2",
            "4 state 2", "5 input 1", "6 state 3", "7 bad 5");
        line(x, "8 not 2 5", -4);
        line(x, "8 not 2 6", -4);
        line(x, "8 not 2 2", -4);
        line(x, "8 not 1 7", -4);
        line(x, "8 not 2 8", -4);
        line(x, "8 not 2 0", -4);
        line(x, "8 not 2 04", -4);
        line(x, "8 not 2 -04", -4);
        line(x, "8 not 2 --4", -4);
        line(x, "8 not 2 -", -4);
        line(x, "8 not 2 - 4", -4);
        line(x, "8 not 2 4-", -4);
        line(x, "8 add 2 -4 -5", -5);
        line(x, "8 redor 1 6", -4);
        line(x, "8 eq 1 4 5", -5);
        line(x, "8 eq 1 4 6", -5);
        line(x, "8 eq 1 -6 6", -4);
        line(x, "8 eq 1 6 -6", -5);
        line(x, "8 ult 1 6 6", -4);
        line(x, "8 slt 1 4 5", -5);
        line(x, "8 bad 4", -3);
        line(x, "8 bad 6", -3);
        line(x, "8 bad -7", -3);
        line(x, "8 constraint -4", -3);
        line(x, "8 ite 2 4 4 4", -4);
        line(x, "8 ite 2 5 5 4", -5);
        line(x, "8 ite 3 5 6 4", -6);
        line(x, "8 ite 3 5 6 -6", -6);
        line(x, "8 ite 3 -5 6 6", 8);
        line(x, "9 eq 1 6 8", 9);
        line(x, "10 bad -9", 10);
        line(x, "11 constraint -5", 11);
    }

    private static void numberWords() {
        WordChecker x = with("1 sort bitvec 1", "2 sort bitvec 3", "3 state 2");
        line(x, "4 constd 1 2", -4);
        line(x, "4 constd 2 8", -4);
        line(x, "4 constd 2 07", -4);
        line(x, "4 constd 2 -1", -4);
        line(x, "4 constd 2 007", -4);
        line(x, "4 constd 2 7", 4);
        line(x, "5 slice 1 3 3 3", -5);
        line(x, "5 slice 1 3 -1 1", -5);
        line(x, "5 slice 1 3 2 1", -6);
        line(x, "5 slice 1 3 1 2", -6);
        line(x, "5 slice 2 3 2 x", -6);
        line(x, "5 slice 2 3 1 0", -6);
        line(x, "5 slice 2 3 2 0", 5);
        line(x, "6 uext 2 3 1", -5);
        line(x, "6 sext 1 3 0", -5);
        line(x, "6 sext 2 3 -0", -5);
        line(x, "6 sext 2 3 0", 6);
        line(x, "7 slice 1 3 0 0", 7);
        line(x, "8 uext 2 7 2", 8);
    }

    private static void joiningWords() {
        WordChecker x = with("1 sort bitvec 1", "2 sort bitvec 2", "3 sort bitvec 3", "4 state 1", "5 state 2");
        line(x, "6 concat 1 4 4", -4);
        line(x, "6 concat 2 5 4", -4);
        line(x, "6 concat 2 4 5", -5);
        line(x, "6 concat 3 4 4", -5);
        line(x, "6 concat 3 -4 -5", 6);
        line(x, "7 concat 3 5 4", 7);
    }

    private static void arrayWords() {
        WordChecker x = with("1 sort bitvec 1", "2 sort bitvec 2", "3 sort array 1 2", "4 sort array 1 1",
            "5 state 3", "6 state 4", "7 input 1", "8 input 1");
        line(x, "9 read 2 6 7", -4);
        line(x, "9 read 2 -5 7", -4);
        line(x, "9 read 2 7 7", -4);
        line(x, "9 read 2 5 5", -5);
        line(x, "9 read 2 5 -7", 9);
        line(x, "10 read 1 6 9", -5);
        line(x, "10 write 3 6 7 9", -4);
        line(x, "10 write 3 5 9 9", -5);
        line(x, "10 write 3 5 7 7", -6);
        line(x, "10 write 3 5 7 5", -6);
        line(x, "10 write 3 5 7 -9", 10);
        line(x, "11 next 3 5 6", -5);
        line(x, "11 next 3 5 -10", -5);
        line(x, "11 next 3 5 10", 11);
        line(x, "12 init 3 5 10", -5);
    }

    private static void initAndNext() {
        WordChecker x = with("1 sort bitvec 1", "2 sort bitvec 2", "3 state 2", "4 input 2", "5 constd 2 1",
            "6 constd 1 1", "7 state 2");
        line(x, "8 init 2 -3 5", -4);
        line(x, "8 init 2 4 5", -4);
        line(x, "8 init 2 5 5", -4);
        line(x, "8 init 1 3 6", -4);
        line(x, "8 init 2 3 6", -5);
        line(x, "8 init 2 3 4", -5);
        line(x, "8 init 2 3 7", -5);
        line(x, "8 next 2 -3 5", -4);
        line(x, "8 next 2 4 5", -4);
        line(x, "8 next 2 3 6", -5);
        line(x, "8 xor 2 3 3", 8);
        line(x, "9 init 2 3 8", -5);
        line(x, "9 ite 2 6 5 3", 9);
        line(x, "10 init 2 3 9", -5);
        line(x, "10 add 2 5 -5", 10);
        line(x, "11 ite 2 -6 5 10", 11);
        line(x, "12 init 2 3 -11", 12);
        line(x, "13 init 2 3 5", -4);
        line(x, "13 init 2 7 11", 13);
        line(x, "14 next 2 3 -4", 14);
        line(x, "15 next 2 3 4", -4);
        line(x, "16 next 2 7 7", 16);
        x.begin(-1);
        due("init by a node that is turned over", x.value(3), 0);
        due("init by a reckoned node", x.value(7), 3);
        x.feed(1);
        x.step();
        due("next by a node that is turned over", x.value(3), 2);
        due("next by the state itself", x.value(7), 3);
    }

    private static void limitsOfBits() {
        WordChecker x = with("1 sort bitvec 1", "2 sort bitvec 2", "3 sort bitvec 3", "4 sort array 1 2",
            "5 sort array 1 3");
        line(x, "6 input 3", -3);
        line(x, "6 input 1", 6);
        line(x, "7 input 2", -3);
        line(x, "7 input 2 1", -3);
        line(x, "7 input 1", 7);
        line(x, "8 input 1", -3);
        line(x, "8 state 4", 8);
        line(x, "9 state 3", -3);
        line(x, "9 state 5", -3);
        line(x, "9 state 2", 9);
        line(x, "10 state 1", -3);
        WordChecker y = with("1 sort bitvec 1", "2 sort bitvec 3", "3 sort array 1 2", "4 state 3");
        line(y, "5 state 1", -3);
    }

    private static void limitOfHardLines() {
        WordChecker x = with("1 sort bitvec 1", "2 input 1", "3 mul 1 2 2");
        line(x, "4 udiv 1 2", -5);
        line(x, "4 urem 1 2 2", 4);
        line(x, "5 mul 1 2 2", -2);
        line(x, "5 udiv", -2);
        line(x, "5 urem 9 9 9", -2);
        line(x, "4 urem 1 2 2", -1);
        line(x, "5 sll 1 2 2", 5);
    }

    private static void limitOfLines() {
        WordChecker x = with("1 sort bitvec 1", "2 input 1");
        for (int id = 3; id <= 20; id++) {
            line(x, id + " bad 2", id);
        }
        due("find in 20 lines", x.find(0), 0);
        x.begin(0);
        x.feed(1);
        line(x, "21 bad 2", -100);
        line(x, "21 bad 3", -3);
        line(x, "20 bad 2", -1);
        line(x, "21 input 1", -100);
        line(x, "22 mul 1 2 2", -100);
        due("a line that is not taken ends no run", x.value(2), 1);
        due("nor drops what was kept", x.shown(0, 2), 1);
        due("nothing is typed then", x.line(), -1);
        due("20 lines", x.lines(), 20);
    }

    private static void lineEndsRunAndKept() {
        WordChecker x = with("1 sort bitvec 1", "2 input 1", "3 bad 2");
        due("find(0)", x.find(0), 0);
        x.begin(0);
        x.feed(1);
        line(x, "4 bad 7", -3);
        due("a faulty line ends no run", x.value(2), 1);
        due("nor drops what was kept", x.shown(0, 2), 1);
        Checks.type(x, "4 sort ");
        due("typing ends no run", x.value(2), 1);
        due("nor drops what was kept", x.shown(0, 2), 1);
        line(x, "bitvec 3", 4);
        due("a line that is taken ends the run", x.value(2), -1);
        due("no feed", x.feed(0), false);
        due("no step", x.step(), false);
        due("and drops what was kept", x.shown(0, 2), -1);
    }

    // Promise 4

    private static void numberOfLines() {
        WordChecker x = new WordChecker();
        due("no lines", x.lines(), 0);
        Checks.take(x, "7 sort bitvec 1");
        due("one line", x.lines(), 1);
        Checks.take(x, "7 sort bitvec 1");
        due("a faulty one does not count", x.lines(), 1);
        Checks.take(x, "90 input 7");
        due("two lines", x.lines(), 2);
    }

    // Promise 5

    private static void beginning() {
        WordChecker x = with("1 sort bitvec 1", "2 sort bitvec 2", "3 constd 2 2", "4 state 1", "5 state 2",
            "6 sort array 1 1", "7 state 6", "8 state 1", "9 init 2 5 3", "10 input 2");
        x.begin(0b1_01_0);
        due("the first one has the lowest bit", x.value(4), 0);
        due("one with init does not count", x.value(5), 2);
        due("an array has its element 0 lower", x.value(7), 1);
        due("the last one has the highest bit", x.value(8), 1);
        due("inputs are 0", x.value(10), 0);
        x.feed(3);
        x.step();
        x.feed(3);
        x.begin(0b11111111_0_10_1);
        due("in place of the run before: 4", x.value(4), 1);
        due("in place of the run before: 5", x.value(5), 2);
        due("in place of the run before: 7", x.value(7), 2);
        due("other bits do not count", x.value(8), 0);
        due("inputs are 0 again", x.value(10), 0);
        x.begin(-1);
        due("all bits: 4", x.value(4), 1);
        due("all bits: 5", x.value(5), 2);
        due("all bits: 7", x.value(7), 3);
        due("all bits: 8", x.value(8), 1);
    }

    private static void beginKeepsWhatIsKept() {
        WordChecker x = with("1 sort bitvec 1", "2 state 1", "3 bad 2");
        due("find(0)", x.find(0), 0);
        x.begin(0);
        x.step();
        due("what is kept stays", x.shown(0, 2), 1);
        due("beside the run by hand", x.value(2), 0);
        due("find beside it", x.find(2), 0);
        due("prove beside it", x.prove(2), 2);
        due("the run by hand stays", x.value(2), 0);
    }

    // Promise 6

    private static void feeding() {
        WordChecker x = with("1 sort bitvec 1", "2 input 1", "3 state 1", "4 input 1", "5 xor 1 2 4");
        due("feed before begin", x.feed(1), false);
        x.begin(0);
        due("feed(1)", x.feed(1), true);
        due("the first one has the lowest bit", x.value(2), 1);
        due("the second one the bit above", x.value(4), 0);
        due("a node follows", x.value(5), 1);
        due("feed(2)", x.feed(2), true);
        due("in place of what was fed: 2", x.value(2), 0);
        due("in place of what was fed: 4", x.value(4), 1);
        due("feed(-1)", x.feed(-1), true);
        due("other bits do not count", x.value(5), 0);
        due("a state is not fed", x.value(3), 0);
        WordChecker y = with("1 sort bitvec 2", "2 input 1");
        y.begin(0);
        y.feed(6);
        due("two bits of one input", y.value(2), 2);
    }

    // Promise 7

    private static void stepping() {
        WordChecker x = with("1 sort bitvec 1", "2 sort bitvec 3", "3 state 2", "4 state 2", "5 input 1",
            "6 constd 2 3", "7 add 2 3 6", "8 next 2 3 7", "9 constraint 5", "10 init 2 3 6");
        due("step before begin", x.step(), false);
        x.begin(5);
        due("at step 0", x.value(3), 3);
        x.feed(1);
        due("step()", x.step(), true);
        due("the value of next", x.value(3), 6);
        due("without next it keeps its value", x.value(4), 5);
        due("inputs are 0", x.value(5), 0);
        due("constraints do not matter", x.step(), true);
        due("again, mod 8", x.value(3), 1);
        due("and again it keeps its value", x.value(4), 5);
        WordChecker y = with("1 sort bitvec 1", "2 state 1", "3 state 1", "4 next 1 2 3", "5 next 1 3 2");
        y.begin(1);
        y.step();
        due("all states go on at once: 2", y.value(2), 0);
        due("all states go on at once: 3", y.value(3), 1);
    }

    // Promise 8, with the table of the kinds of line

    private static void valuesOfOneNode() {
        WordChecker x = with("1 sort bitvec 1", "2 sort bitvec 2", "3 sort bitvec 3", "4 state 3", "5 not 3 4",
            "6 neg 3 4", "7 redor 1 4", "8 slice 2 4 2 1", "9 slice 1 4 1 1", "10 uext 3 8 1", "11 sext 3 8 1",
            "12 sext 3 9 2", "13 redor 1 -4", "14 neg 3 -4", "15 uext 3 -8 1", "16 constd 3 5");
        for (int a = 0; a < 8; a++) {
            x.begin(a);
            due("state " + a, x.value(4), a);
            due("not " + a, x.value(5), 7 - a);
            due("neg " + a, x.value(6), (8 - a) % 8);
            due("redor " + a, x.value(7), a == 0 ? 0 : 1);
            due("slice 2 1 of " + a, x.value(8), a / 2);
            due("slice 1 1 of " + a, x.value(9), a / 2 % 2);
            due("uext of " + a, x.value(10), a / 2);
            due("sext of " + a, x.value(11), a / 2 + (a >= 4 ? 4 : 0));
            due("sext of one bit of " + a, x.value(12), a / 2 % 2 * 7);
            due("redor of - " + a, x.value(13), a == 7 ? 0 : 1);
            due("neg of - " + a, x.value(14), (a + 1) % 8);
            due("uext of - " + a, x.value(15), 3 - a / 2);
            due("constd", x.value(16), 5);
        }
    }

    private static void valuesOfTwoNodes() {
        for (int w = 1; w <= 3; w++) {
            for (int a = 0; a < 1 << w; a++) {
                valuesOfTwoNodes(w, a);
            }
        }
    }

    private static void valuesOfTwoNodes(int w, int a) {
        String[] kinds = {"and", "or", "xor", "add", "sub", "sll", "srl", "mul"};
        WordChecker x = with("1 sort bitvec 1", "2 sort bitvec " + w, "3 state 2", "4 state 2", "20 eq 1 3 4",
            "21 ult 1 3 4", "22 slt 1 3 4", "23 urem 2 3 4");
        for (int i = 0; i < kinds.length; i++) {
            line(x, (30 + i) + " " + kinds[i] + " 2 3 4", 30 + i);
        }
        WordChecker y = with("1 sort bitvec " + w, "3 state 1", "4 state 1", "38 udiv 1 3 4", "39 sub 1 -4 3");
        int m = 1 << w;
        for (int b = 0; b < m; b++) {
            x.begin(a + b * m);
            y.begin(a + b * m);
            String of = " of " + a + " and " + b + ", width " + w;
            due("eq" + of, x.value(20), a == b ? 1 : 0);
            due("ult" + of, x.value(21), a < b ? 1 : 0);
            int sa = a >= m / 2 ? a - m : a;
            int sb = b >= m / 2 ? b - m : b;
            due("slt" + of, x.value(22), sa < sb ? 1 : 0);
            due("urem" + of, x.value(23), b == 0 ? a : a % b);
            due("and" + of, x.value(30), a & b);
            due("or" + of, x.value(31), a | b);
            due("xor" + of, x.value(32), a ^ b);
            due("add" + of, x.value(33), (a + b) % m);
            due("sub" + of, x.value(34), (a - b + m) % m);
            due("sll" + of, x.value(35), a * (1 << b) % m);
            due("srl" + of, x.value(36), a / (1 << b));
            due("mul" + of, x.value(37), a * b % m);
            due("udiv" + of, y.value(38), b == 0 ? m - 1 : a / b);
            due("sub with -" + of, y.value(39), (m - 1 - b - a + m) % m);
        }
    }

    private static void valuesOfOtherKinds() {
        WordChecker x = with("1 sort bitvec 1", "2 sort bitvec 2", "3 sort bitvec 3", "4 state 1", "5 state 2",
            "6 state 2", "7 concat 3 4 5", "8 concat 3 5 4", "9 ite 2 4 5 6", "10 ite 2 -4 -5 6", "11 concat 3 -4 -5");
        for (int bits = 0; bits < 32; bits++) {
            int c = bits % 2;
            int a = bits / 2 % 4;
            int b = bits / 8;
            x.begin(bits);
            due("concat 1 2", x.value(7), 4 * c + a);
            due("concat 2 1", x.value(8), 2 * a + c);
            due("ite", x.value(9), c == 1 ? a : b);
            due("ite with -", x.value(10), c == 0 ? 3 - a : b);
            due("concat with -", x.value(11), 7 - (4 * c + a));
        }
    }

    private static void valuesOfArrays() {
        for (int v = 0; v < 4; v++) {
            valuesOfArrays(v);
        }
    }

    private static void valuesOfArrays(int v) {
        WordChecker x = with("1 sort bitvec 1", "2 sort bitvec 2", "3 sort array 1 2", "4 state 3", "5 input 1",
            "6 state 2", "7 read 2 4 5", "8 write 3 4 5 6", "9 ite 3 5 8 4", "10 eq 1 4 8", "11 write 3 4 -5 -6",
            "12 next 3 4 8", "13 read 2 8 -5");
        for (int bits = 0; bits < 16; bits++) {
            int low = bits % 4;
            int high = bits / 4;
            x.begin(bits + 16 * v);
            due("array", x.value(4), low + 4 * high);
            due("read 0", x.value(7), low);
            due("write 0", x.value(8), v + 4 * high);
            due("ite of arrays, 0", x.value(9), low + 4 * high);
            due("eq of arrays, 0", x.value(10), low == v ? 1 : 0);
            due("write with -, 0", x.value(11), low + 4 * (3 - v));
            due("read 1 of what was written", x.value(13), high);
            x.feed(1);
            due("read 1", x.value(7), high);
            due("write 1", x.value(8), low + 4 * v);
            due("ite of arrays, 1", x.value(9), low + 4 * v);
            due("eq of arrays, 1", x.value(10), high == v ? 1 : 0);
            x.step();
            due("next of an array", x.value(4), low + 4 * v);
        }
    }

    private static void values() {
        WordChecker x = with("1 sort bitvec 1", "2 input 1", "3 state 1", "4 bad 2", "5 constraint 2",
            "6 next 1 3 2", "7 constd 1 1", "8 init 1 3 7");
        due("no run", x.value(2), -1);
        due("no run, a constant", x.value(7), -1);
        x.begin(0);
        due("a sort", x.value(1), -1);
        due("an input", x.value(2), 0);
        due("a state", x.value(3), 1);
        due("bad", x.value(4), -1);
        due("constraint", x.value(5), -1);
        due("next", x.value(6), -1);
        due("a constant", x.value(7), 1);
        due("init", x.value(8), -1);
        due("no line", x.value(9), -1);
        due("0", x.value(0), -1);
        due("a - is for lines only", x.value(-2), -1);
        due("least", x.value(Integer.MIN_VALUE), -1);
        due("greatest", x.value(Integer.MAX_VALUE), -1);
    }

    // Promise 9

    private static String[] counter(String... more) {
        String[] lines = {"1 sort bitvec 1", "2 sort bitvec 3", "3 constd 2 0", "4 constd 2 1", "5 state 2",
            "6 init 2 5 3", "7 add 2 5 4", "8 next 2 5 7"};
        String[] all = new String[lines.length + more.length];
        System.arraycopy(lines, 0, all, 0, lines.length);
        System.arraycopy(more, 0, all, lines.length, more.length);
        return all;
    }

    private static void finding() {
        for (int d = 0; d < 8; d++) {
            WordChecker x = with(counter("9 constd 2 " + d, "10 eq 1 5 9", "11 bad 10"));
            for (int k = 0; k <= 3; k++) {
                due("counter to " + d + ": find(" + k + ")", x.find(k), d <= k ? d : -1);
                due("counter to " + d + ": kept by find(" + k + ")", x.shown(d, 5), d <= k ? d : -1);
            }
        }
        WordChecker two = with(counter("9 constd 2 3", "10 eq 1 5 9", "11 bad 10", "12 constd 2 2", "13 eq 1 5 12",
            "14 bad 13"));
        due("some bad: the earlier one", two.find(3), 2);
        WordChecker none = with(counter());
        due("no bad", none.find(3), -1);
        WordChecker input = with("1 sort bitvec 1", "2 input 1", "3 bad -2");
        due("a bad input", input.find(0), 0);
        due("the least one", input.shown(0, 2), 0);
    }

    private static void leastRun() {
        // Two inputs of one bit; the sum of what they were has to come to 2 by two steps.
        WordChecker x = with("1 sort bitvec 1", "2 sort bitvec 2", "3 input 1", "4 input 1", "5 state 2",
            "6 constd 2 0", "7 init 2 5 6", "8 concat 2 3 4", "9 add 2 5 8", "10 next 2 5 9", "11 slice 1 5 1 1",
            "12 slice 1 5 0 0", "13 and 1 11 12", "14 bad 13");
        due("one step is enough", x.find(3), 1);
        due("first input", x.shown(0, 3), 1);
        due("second input", x.shown(0, 4), 1);
        line(x, "15 and 1 3 4", 15);
        line(x, "16 constraint -15", 16);
        due("two steps, as no step may have both", x.find(3), 2);
        due("step 0, the first input first", x.shown(0, 3), 0);
        due("step 0, then the second one", x.shown(0, 4), 1);
        due("step 1, first input", x.shown(1, 3), 1);
        due("step 1, second input", x.shown(1, 4), 0);
        due("step 2, first input", x.shown(2, 3), 0);
        due("step 2, second input", x.shown(2, 4), 0);
        due("state at step 2", x.shown(2, 5), 3);
    }

    private static void leastRunOfStates() {
        WordChecker x = with("1 sort bitvec 1", "2 sort bitvec 2", "3 sort array 1 1", "4 state 2", "5 state 3",
            "6 slice 1 4 1 1", "7 slice 1 4 0 0", "8 xor 1 6 7", "9 bad 8");
        due("find(0)", x.find(0), 0);
        due("the highest bit is 0 if it can be", x.shown(0, 4), 1);
        due("others are 0", x.shown(0, 5), 0);
        WordChecker y = with("1 sort bitvec 1", "2 sort bitvec 2", "3 sort array 1 1", "4 state 3", "5 state 1",
            "6 constd 1 0", "7 constd 1 1", "8 read 1 4 6", "9 read 1 4 7", "10 xor 1 8 9", "11 bad 10", "12 bad 5");
        due("find(0) of an array", y.find(0), 0);
        due("the first state comes first", y.shown(0, 4), 0);
        due("so the second one is 1", y.shown(0, 5), 1);
        line(y, "13 constraint -5", 13);
        due("find(0) without it", y.find(0), 0);
        due("element 1 first", y.shown(0, 4), 1);
        WordChecker z = with("1 sort bitvec 1", "2 state 1", "3 input 1", "4 input 1", "5 xor 1 2 3", "6 bad 5",
            "7 ite 1 4 -2 2", "8 next 1 2 7");
        due("states before inputs", z.find(3), 0);
        due("the state is 0", z.shown(0, 2), 0);
        due("the input is 1", z.shown(0, 3), 1);
        due("the input that does not matter is 0", z.shown(0, 4), 0);
    }

    private static void findingWithConstraints() {
        WordChecker x = with(counter("9 input 1", "10 constd 2 2", "11 eq 1 5 10", "12 bad 11", "13 eq 1 5 4",
            "14 and 1 13 -9"));
        due("without a constraint", x.find(3), 2);
        due("input at step 1", x.shown(1, 9), 0);
        line(x, "15 constraint -14", 15);
        due("with one at a step before", x.find(3), 2);
        due("input at step 0", x.shown(0, 9), 0);
        due("input at step 1 is 1 then", x.shown(1, 9), 1);
        due("input at step 2", x.shown(2, 9), 0);
        line(x, "16 constraint -13", 16);
        due("no way by step 1", x.find(3), -1);
        due("nothing is kept then", x.shown(0, 5), -1);
        WordChecker y = with(counter("9 constd 2 2", "10 eq 1 5 9", "11 bad 10", "12 constraint -10"));
        due("a constraint at the last step", y.find(3), -1);
        WordChecker z = with("1 sort bitvec 1", "2 constd 1 0", "3 bad -2", "4 constraint 2");
        due("no run at all", z.find(3), -1);
    }

    private static void findingRefused() {
        WordChecker x = with("1 sort bitvec 1", "2 constd 1 1", "3 bad 2");
        due("find(-1)", x.find(-1), -2);
        due("find(4)", x.find(4), -2);
        due("nothing is kept", x.shown(0, 2), -1);
        due("find(3)", x.find(3), 0);
        due("find(4) again", x.find(4), -2);
        due("find(least)", x.find(Integer.MIN_VALUE), -2);
        due("find(greatest)", x.find(Integer.MAX_VALUE), -2);
        due("what is kept stays", x.shown(0, 2), 1);
    }

    // Promise 10

    private static void showing() {
        WordChecker x = with(counter("9 constd 2 2", "10 eq 1 5 9", "11 bad 10", "12 input 1"));
        due("before a find", x.shown(0, 5), -1);
        due("find(2)", x.find(2), 2);
        for (int t = 0; t <= 2; t++) {
            due("state at " + t, x.shown(t, 5), t);
            due("sum at " + t, x.shown(t, 7), t + 1);
            due("eq at " + t, x.shown(t, 10), t == 2 ? 1 : 0);
            due("input at " + t, x.shown(t, 12), 0);
            due("constant at " + t, x.shown(t, 9), 2);
            due("sort at " + t, x.shown(t, 1), -1);
            due("init at " + t, x.shown(t, 6), -1);
            due("bad at " + t, x.shown(t, 11), -1);
            due("no line at " + t, x.shown(t, 13), -1);
            due("-5 at " + t, x.shown(t, -5), -1);
        }
        due("no step 3", x.shown(3, 5), -1);
        due("no step -1", x.shown(-1, 5), -1);
        due("no step least", x.shown(Integer.MIN_VALUE, 5), -1);
        due("no step greatest", x.shown(Integer.MAX_VALUE, 5), -1);
        due("find(1)", x.find(1), -1);
        due("nothing is kept any more", x.shown(0, 5), -1);
    }

    // Promise 11

    private static void proving() {
        WordChecker x = with(counter("9 constd 2 2", "10 eq 1 5 9", "11 bad 10"));
        due("not found with 1, but a stretch comes in from 0 and 1", x.prove(1), 0);
        due("nothing is kept", x.shown(0, 5), -1);
        due("found with 2", x.prove(2), 2);
        due("what was found is kept", x.shown(2, 5), 2);
        due("and dropped by a shorter one", x.prove(0), 0);
        due("so that nothing is kept", x.shown(0, 5), -1);
        // From 0 the state stays 0; what is bad is reached from 5 by 6 and 7 alone, and 5 from nowhere.
        WordChecker y = with("1 sort bitvec 1", "2 sort bitvec 3", "3 constd 2 0", "4 constd 2 1", "5 constd 2 5",
            "6 state 2", "7 init 2 6 3", "8 add 2 6 4", "9 ult 1 6 5", "10 ite 2 9 3 8", "11 next 2 6 10",
            "12 constd 2 7", "13 eq 1 6 12", "14 bad 13");
        due("6, 7 is a stretch", y.prove(0), 0);
        due("5, 6, 7 is a stretch", y.prove(1), 0);
        due("nothing comes before 5", y.prove(2), 1);
        due("nor is it found", y.find(3), -1);
    }

    private static void provingNeedsDifferentSteps() {
        // A state that may wait, and two bits: 0 goes to 0 or stays; 1 waits or goes to 2, which is bad.
        WordChecker x = with("1 sort bitvec 1", "2 sort bitvec 2", "3 input 1", "4 state 2", "5 constd 2 0",
            "6 init 2 4 5", "7 constd 2 1", "8 eq 1 4 7", "9 constd 2 2", "10 and 1 3 8", "11 ite 2 10 9 4",
            "12 next 2 4 11", "13 eq 1 4 9", "14 bad 13");
        due("1, 2", x.prove(0), 0);
        due("1, 1, 2 has two steps that are the same", x.prove(1), 1);
        due("1, 1, 1, 2 too", x.prove(2), 1);
        WordChecker y = with("1 sort bitvec 1", "2 input 1", "3 bad 2", "4 constd 1 0", "5 constraint -2");
        due("no states: no two steps differ", y.prove(0), 1);
        WordChecker z = with("1 sort bitvec 1", "2 state 1", "3 constd 1 0", "4 init 1 2 3", "5 bad 2");
        due("a state that stays", z.prove(0), 1);
        WordChecker w = with("1 sort bitvec 1", "2 state 1", "3 constd 1 0", "4 init 1 2 3", "5 input 1",
            "6 and 1 2 5", "7 next 1 2 2", "8 bad 6");
        due("a bad input at a state that stays", w.prove(0), 1);
    }

    private static void provingWithConstraints() {
        String[] lines = counter("9 constd 2 6", "10 eq 1 5 9", "11 bad 10", "12 constd 2 5", "13 eq 1 5 12");
        WordChecker x = with(lines);
        due("5, 6", x.prove(0), 0);
        due("4, 5, 6", x.prove(1), 0);
        line(x, "14 constraint -13", 14);
        due("5 may not be: 5, 6", x.prove(0), 1);
        due("5 may not be: 4, 5, 6", x.prove(1), 1);
        due("the last step: 6 may not be", with(counter("9 constd 2 6", "10 eq 1 5 9", "11 bad 10",
            "12 constraint -10")).prove(0), 1);
        WordChecker y = with(lines);
        line(y, "14 bad 13", 14);
        due("4, 5", y.prove(0), 0);
        due("3, 4, 5", y.prove(1), 0);
        line(y, "15 constd 2 4", 15);
        line(y, "16 eq 1 5 15", 16);
        line(y, "17 constraint -16", 17);
        due("5, 6 has a bad step before its last one", y.prove(0), 1);
    }

    private static void provingRefused() {
        WordChecker x = with("1 sort bitvec 1", "2 constd 1 1", "3 bad 2");
        due("prove(-1)", x.prove(-1), -2);
        due("prove(3)", x.prove(3), -2);
        due("nothing is kept", x.shown(0, 2), -1);
        due("prove(2)", x.prove(2), 2);
        due("what is kept", x.shown(0, 2), 1);
        due("prove(3) again", x.prove(3), -2);
        due("prove(least)", x.prove(Integer.MIN_VALUE), -2);
        due("prove(greatest)", x.prove(Integer.MAX_VALUE), -2);
        due("what is kept stays", x.shown(0, 2), 1);
        due("nothing beyond it", x.shown(1, 2), -1);
    }
}
