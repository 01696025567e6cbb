import java.util.Arrays;

/** The edges of what "Terms" says of lines, words, numbers, sorts and nodes: a test for each sentence. */
public final class WordsEdgeTest {
    private static final Checks CHECK = new Checks();

    /** Lines with one number each, at #; the number that is good there; the answer if it is at fault. */
    private static final String[] NUMBERS = {
        "# sort bitvec 1", "90 sort bitvec #", "90 sort array # 1", "90 sort array 1 #", "90 input #", "90 state #",
        "90 constd 1 #", "90 not # 7", "90 not 1 #", "90 slice 1 6 # 0", "90 slice 1 6 1 #", "90 uext 2 6 #",
        "90 ite 1 7 7 #", "90 next 2 # 6", "90 bad #", "90 constraint #"
    };
    private static final String[] GOOD = {"9", "1", "1", "1", "1", "1", "1", "1", "7", "0", "1", "0", "7", "6", "7",
        "7"};
    private static final int[] FAULTS = {-1, -4, -4, -5, -3, -3, -4, -3, -4, -5, -6, -5, -6, -4, -3, -3};
    private static final boolean[] IS_NODE = {
        false, false, false, false, false, false, false, false, true, false, false, false, true, false, true, true
    };

    public static void main(String[] args) {
        spaces();
        idRange();
        idOrder();
        kindWord();
        digitsAlone();
        atMostTwoDigits();
        noZeroFirst();
        widths();
        arraysOfBits();
        values();
        minusIsForBits();
        minusIsForNodes();
        minusTurnsOver();
        sameSorts();
        noNodes();
        fixedNodes();
        notFixedNodes();
        fromTheFirstWordOn();
        missingWords();
        oneWordTooMany();
        CHECK.end();
    }

    private static void spaces() {
        CHECK.sentence("WORDS with one or more spaces between each two (also before the first and behind the last)");
        WordChecker x = CHECK.with("1 sort bitvec 1", " 2 sort bitvec 1", "3 sort bitvec 1 ");
        CHECK.line(x, "    4     sort       bitvec      1      ", 4);
        CHECK.line(x, "5sort bitvec 1", -1);
        CHECK.line(x, "5 sortbitvec 1", -2);
        CHECK.line(x, "5 sort bitvec1", -3);
        CHECK.line(x, "5,sort bitvec 1", -1);
        CHECK.line(x, "5_sort_bitvec_1", -1);
        CHECK.line(x, "5 sort bitvec 1 1 1 1 1 1 1 1 1 1 1 1 1", -5);
        CHECK.line(x, "5 1 1 1 1 1 1 1 1 1 1 1 1 1 1 1 1 1 1 1", -2);
        CHECK.line(x, "", -1);
        CHECK.line(x, " ", -1);
        CHECK.line(x, "                                        ", -1);
        CHECK.line(x, "                         5 sort bitvec 1", 5);
        CHECK.line(x, "6 sort bitvec 1                         ", 6);
    }

    private static void idRange() {
        CHECK.sentence("The first word is the line's ID, 1 .. 99");
        CHECK.line(new WordChecker(), "0 sort bitvec 1", -1);
        CHECK.line(new WordChecker(), "1 sort bitvec 1", 1);
        CHECK.line(new WordChecker(), "9 sort bitvec 1", 9);
        CHECK.line(new WordChecker(), "10 sort bitvec 1", 10);
        CHECK.line(new WordChecker(), "99 sort bitvec 1", 99);
        CHECK.line(new WordChecker(), "100 sort bitvec 1", -1);
        CHECK.line(new WordChecker(), "sort bitvec 1", -1);
    }

    private static void idOrder() {
        CHECK.sentence("greater than that of every line before");
        WordChecker x = CHECK.with("50 sort bitvec 1");
        CHECK.line(x, "50 sort bitvec 1", -1);
        CHECK.line(x, "49 sort bitvec 1", -1);
        CHECK.line(x, "1 sort bitvec 1", -1);
        CHECK.line(x, "60 sort bitvec 0", -4);
        CHECK.line(x, "51 sort bitvec 1", 51);
        CHECK.line(x, "50 sort bitvec 1", -1);
        CHECK.line(x, "99 sort bitvec 1", 99);
        CHECK.line(x, "99 sort bitvec 1", -1);
        CHECK.line(x, "98 sort bitvec 1", -1);
        WordChecker full = CHECK.with(Samples.full());
        CHECK.line(full, "90 sort bitvec 1", -100);
        CHECK.line(full, "21 sort bitvec 1", -100);
        CHECK.line(full, "20 sort bitvec 1", -1);
    }

    private static void kindWord() {
        CHECK.sentence("the second one says what it is");
        WordChecker x = CHECK.with(Samples.BASE);
        CHECK.line(x, "90", -2);
        CHECK.line(x, "90 7", -2);
        CHECK.line(x, "90 bitvec 1", -2);
        CHECK.line(x, "90 array 1 1", -2);
        CHECK.line(x, "90 -not 2 6", -2);
        CHECK.line(x, "90 NOT 2 6", -2);
        for (String text : Samples.LINES) {
            String word = text.substring(0, text.indexOf(' '));
            String rest = text.substring(word.length());
            WordChecker y = CHECK.with(Samples.BASE);
            CHECK.line(y, "90 " + word.substring(0, word.length() - 1) + rest, -2);
            CHECK.line(y, "90 " + "z" + word + rest, -2);
            CHECK.line(y, "90 " + word + "s" + rest, -2);
            CHECK.line(y, "90 " + word + rest, 90);
        }
    }

    /** Where a number stands, each of these in place of the good one is at fault. */
    private static void numbersAtFault(String before, String behind) {
        for (int i = 0; i < NUMBERS.length; i++) {
            CHECK.behind(Samples.BASE, NUMBERS[i].replace("#", before + GOOD[i] + behind), FAULTS[i]);
        }
    }

    private static void goodNumbers() {
        for (int i = 0; i < NUMBERS.length; i++) {
            CHECK.behind(Samples.BASE, NUMBERS[i].replace("#", GOOD[i]), i == 0 ? 9 : 90);
        }
    }

    private static void digitsAlone() {
        CHECK.sentence("Numbers are written with digits alone");
        goodNumbers();
        String[] others = {"+", "a", "x", "/", ":", ".", "~", "!"};
        for (String other : others) {
            numbersAtFault(other, "");
            numbersAtFault("", other);
        }
        numbersAtFault("", "-");
        for (int i = 0; i < NUMBERS.length; i++) {
            for (String other : others) {
                CHECK.behind(Samples.BASE, NUMBERS[i].replace("#", other), FAULTS[i]);
            }
        }
    }

    private static void atMostTwoDigits() {
        CHECK.sentence("at most two");
        numbersAtFault("10", "");
        numbersAtFault("00", "");
        numbersAtFault("", "00");
        numbersAtFault("429496729", "");
        WordChecker x = CHECK.with("1 sort bitvec 1", "10 sort bitvec 2", "98 input 10");
        CHECK.line(x, "99 not 10 98", 99);
    }

    private static void noZeroFirst() {
        CHECK.sentence("the first one not 0 unless it is the only one");
        numbersAtFault("0", "");
        CHECK.behind(Samples.BASE, "90 constd 1 00", -4);
        CHECK.behind(Samples.BASE, "90 not 2 -06", -4);
        CHECK.behind(Samples.BASE, "90 constd 1 0", 90);
        CHECK.behind(Samples.BASE, "90 slice 1 6 0 0", 90);
        CHECK.behind(Samples.BASE, "90 sext 2 6 0", 90);
        CHECK.behind(Samples.BASE, "10 constd 1 0", 10);
        CHECK.behind(Samples.BASE, "20 constd 1 0", 20);
    }

    private static void widths() {
        CHECK.sentence("BITS of a width 1 .. 3");
        for (int w = 0; w <= 99; w++) {
            CHECK.line(new WordChecker(), "5 sort bitvec " + w, w >= 1 && w <= 3 ? 5 : -4);
        }
    }

    private static void arraysOfBits() {
        CHECK.sentence("an ARRAY of two ELEMENTS, each BITS of one width");
        for (int w = 1; w <= 3; w++) {
            WordChecker x = CHECK.with("1 sort bitvec 1", "2 sort bitvec " + w, "3 sort array 1 2", "4 state 3",
                "5 input 1", "6 read 2 4 5");
            CHECK.line(x, "7 sort array 1 3", -5);
            CHECK.line(x, "7 read 3 4 5", -3);
            int most = (1 << w) - 1;
            x.begin(most);
            CHECK.due("element 0", x.value(6), most);
            x.feed(1);
            CHECK.due("element 1", x.value(6), 0);
            x.begin(most << w);
            CHECK.due("element 0", x.value(6), 0);
            x.feed(1);
            CHECK.due("element 1", x.value(6), most);
        }
    }

    private static void values() {
        CHECK.sentence("for BITS of width w a number 0 .. 2^w - 1; for an array element 0 plus 2^w * element 1");
        for (int w = 1; w <= 3; w++) {
            int m = 1 << w;
            WordChecker x = CHECK.with("1 sort bitvec 1", "2 sort bitvec " + w, "3 state 2");
            WordChecker y = CHECK.with("1 sort bitvec 1", "2 sort bitvec " + w, "3 sort array 1 2", "4 state 3",
                "5 constd 1 0", "6 constd 1 1", "7 read 2 4 5", "8 read 2 4 6");
            for (int v = 0; v < m; v++) {
                x.begin(v);
                CHECK.due("bits " + v, x.value(3), v);
            }
            x.begin(-1);
            CHECK.due("the greatest bits", x.value(3), m - 1);
            for (int v = 0; v < m * m; v++) {
                y.begin(v);
                CHECK.due("array " + v, y.value(4), v);
                CHECK.due("its elements", y.value(7) + m * y.value(8), v);
            }
            y.begin(-1);
            CHECK.due("the greatest array", y.value(4), m * m - 1);
        }
    }

    private static void minusIsForBits() {
        CHECK.sentence("its ID may be written with a - before it, if its sort is BITS");
        String[] bits = {
            "not 2 -6", "neg 2 -6", "redor 1 -6", "and 2 -6 -8", "srl 2 -6 -8", "eq 1 -6 -8", "ult 1 -6 -8",
            "slt 1 -6 -8", "concat 3 -7 -6", "slice 1 -6 1 1", "uext 3 -6 1", "sext 3 -6 1", "ite 2 -7 -6 -8",
            "read 1 5 -7", "write 4 5 -7 -7", "init 2 6 -8", "next 2 6 -6", "bad -7", "constraint -7"
        };
        for (String text : bits) {
            CHECK.behind(Samples.BASE, "90 " + text, 90);
        }
        WordChecker x = CHECK.with(Samples.BASE);
        CHECK.line(x, "90 eq 1 -5 5", -4);
        CHECK.line(x, "90 eq 1 5 -5", -5);
        CHECK.line(x, "90 ite 4 7 -5 5", -5);
        CHECK.line(x, "90 ite 4 7 5 -5", -6);
        CHECK.line(x, "90 read 1 -5 7", -4);
        CHECK.line(x, "90 write 4 -5 7 7", -4);
        CHECK.line(x, "90 next 4 5 -5", -5);
        CHECK.line(x, "90 next 4 -5 5", -4);
        CHECK.line(x, "90 init 2 -6 8", -4);
        CHECK.line(x, "90 next 2 -6 8", -4);
        CHECK.line(x, "90 not 2 -", -4);
        CHECK.line(x, "90 not 2 - 6", -4);
        CHECK.line(x, "90 not 2 --6", -4);
        CHECK.line(x, "90 not 2 6-", -4);
        CHECK.line(x, "90 not 2 -0", -4);
        CHECK.line(x, "90 not 2 -9", -4);
        CHECK.line(x, "90 not 2 -2", -4);
        CHECK.line(x, "90 not 2 -7", -4);
    }

    private static void minusIsForNodes() {
        CHECK.sentence("Where a node is meant");
        for (int i = 0; i < NUMBERS.length; i++) {
            String text = NUMBERS[i].replace("#", "-" + GOOD[i]);
            CHECK.behind(Samples.BASE, text, IS_NODE[i] ? 90 : FAULTS[i]);
        }
        WordChecker x = CHECK.with(Samples.BASE);
        x.begin(0);
        CHECK.due("an ID in a call has no -", x.value(-6), -1);
    }

    private static void minusTurnsOver() {
        CHECK.sentence("it stands for the node's value with all bits turned over");
        for (int w = 1; w <= 3; w++) {
            WordChecker x = CHECK.with("1 sort bitvec " + w, "2 state 1", "3 uext 1 -2 0", "4 next 1 2 -2");
            int most = (1 << w) - 1;
            for (int v = 0; v <= most; v++) {
                x.begin(v);
                CHECK.due("-" + v, x.value(3), most - v);
                x.step();
                CHECK.due("next of " + v, x.value(2), most - v);
            }
        }
        for (int w = 1; w <= 3; w++) {
            for (String text : OF_WIDTH) {
                minusIsAsNot(w, text);
            }
        }
    }

    /** Lines over two nodes of one width, 3 and 4, that both can have a -, and one bit, 5. */
    private static final String[] OF_WIDTH = {
        "not 2 #3", "neg 2 #3", "redor 1 #3", "and 2 #3 #4", "or 2 #3 #4", "xor 2 #3 #4", "add 2 #3 #4", "sub 2 #3 #4",
        "mul 2 #3 #4", "udiv 2 #3 #4", "urem 2 #3 #4", "sll 2 #3 #4", "srl 2 #3 #4", "eq 1 #3 #4", "ult 1 #3 #4",
        "slt 1 #3 #4", "slice 1 #3 0 0", "uext 2 #3 0", "sext 2 #3 0", "ite 2 5 #3 #4"
    };

    private static void minusIsAsNot(int w, String text) {
        WordChecker x = CHECK.with("1 sort bitvec 1", "2 sort bitvec " + w, "3 state 2", "4 state 2", "5 input 1",
            "13 not 2 3", "14 not 2 4", "20 " + text.replace("#", "-"), "21 " + text.replace("#", "1"));
        for (int v = 0; v < 1 << (2 * w); v++) {
            x.begin(v);
            CHECK.due(text + " of " + v + ", width " + w, x.value(20), x.value(21));
            x.feed(1);
            CHECK.due(text + " of " + v + " and 1, width " + w, x.value(20), x.value(21));
        }
    }

    private static void sameSorts() {
        CHECK.sentence("Sorts are the same if they are both bits, or both arrays, of one width.");
        String[] lines = {
            "1 sort bitvec 1", "2 sort bitvec 2", "3 sort bitvec 1", "4 sort bitvec 2", "5 sort array 1 1",
            "6 sort array 3 3", "7 state 5", "8 state 6", "9 state 2", "10 input 3"
        };
        String[] good = {
            "not 4 9", "redor 3 9", "add 4 9 -9", "read 3 7 10", "read 1 8 10", "write 5 8 10 10", "eq 3 7 8",
            "ite 6 10 7 8", "next 6 7 8", "next 4 9 9", "sort array 3 4", "concat 4 10 10", "bad 10"
        };
        for (String text : good) {
            CHECK.behind(lines, "90 " + text, 90);
        }
        WordChecker x = CHECK.with(lines);
        CHECK.line(x, "90 not 2 10", -4);
        CHECK.line(x, "90 not 3 9", -4);
        CHECK.line(x, "90 eq 1 7 9", -5);
        CHECK.line(x, "90 eq 1 9 7", -5);
        CHECK.line(x, "90 ite 5 10 9 7", -5);
        CHECK.line(x, "90 ite 2 10 7 9", -5);
        CHECK.line(x, "90 next 5 9 7", -4);
        CHECK.line(x, "90 next 5 7 9", -5);
        CHECK.line(x, "90 sort array 1 2", 90);
        CHECK.line(x, "91 write 90 7 10 9", -4);
        CHECK.line(x, "91 ite 90 10 7 8", -5);
    }

    private static void noNodes() {
        CHECK.sentence("sort, init, next, bad and constraint lines are no nodes.");
        WordChecker x = CHECK.with("1 sort bitvec 1", "2 constd 1 1", "3 state 1", "4 init 1 3 2", "5 next 1 3 3",
            "6 bad 3", "7 constraint 3");
        int[] none = {1, 4, 5, 6, 7};
        CHECK.due("find(0)", x.find(0), 0);
        x.begin(0);
        for (int id : none) {
            CHECK.line(x, "90 not 1 " + id, -4);
            CHECK.line(x, "90 not 1 -" + id, -4);
            CHECK.line(x, "90 eq 1 3 " + id, -5);
            CHECK.line(x, "90 bad " + id, -3);
            CHECK.due("value(" + id + ")", x.value(id), -1);
            CHECK.due("shown(0, " + id + ")", x.shown(0, id), -1);
        }
        int[] noSort = {2, 3, 4, 5, 6, 7};
        for (int id : noSort) {
            CHECK.line(x, "90 input " + id, -3);
            CHECK.line(x, "90 sort array " + id + " 1", -4);
            CHECK.line(x, "90 sort array 1 " + id, -5);
        }
    }

    /** Lines of one sort in which a stands for each node. */
    private static final String[] OVER_NODES = {
        "not 1 a", "neg 1 a", "redor 1 a", "and 1 a a", "or 1 a a", "xor 1 a a", "add 1 a a", "sub 1 a a", "mul 1 a a",
        "udiv 1 a a", "urem 1 a a", "sll 1 a a", "srl 1 a a", "eq 1 a a", "ult 1 a a", "slt 1 a a", "slice 1 a 0 0",
        "uext 1 a 0", "sext 1 a 0", "ite 1 a a a"
    };

    private static void fixedNodes() {
        CHECK.sentence("A node is FIXED if it is a constd");
        String[] lines = {"1 sort bitvec 1", "2 constd 1 1", "3 state 1", "4 input 1"};
        CHECK.behind(lines, "90 init 1 3 2", 90);
        CHECK.behind(lines, "90 init 1 3 -2", 90);
        for (String text : OVER_NODES) {
            WordChecker x = CHECK.with(lines);
            CHECK.line(x, "5 " + withNode(text, 0, "2"), 5);
            CHECK.line(x, "6 not 1 -5", 6);
            CHECK.line(x, "7 init 1 3 6", 7);
        }
        WordChecker y = CHECK.with("1 sort bitvec 1", "2 sort bitvec 2", "3 constd 1 1", "4 concat 2 3 -3",
            "5 state 2");
        CHECK.line(y, "6 init 2 5 4", 6);
        y.begin(1);
        CHECK.due("the state at step 0", y.value(5), 2);
    }

    /** The line with the node n (from 0) of its nodes replaced; null if it has no such node. */
    private static String withNode(String text, int n, String other) {
        String[] words = text.split(" ");
        int at = -1;
        for (int j = 2; j < words.length; j++) {
            if (words[j].equals("a")) {
                at++;
                words[j] = at == n ? other : "2";
            }
        }
        return at >= n ? String.join(" ", words) : null;
    }

    private static void notFixedNodes() {
        CHECK.sentence("or no input or state and all nodes in its line are fixed");
        String[] lines = {"1 sort bitvec 1", "2 constd 1 0", "3 state 1", "4 input 1", "5 state 1", "6 init 1 5 2"};
        String[] notFixed = {"3", "4", "5", "-3"};
        for (String id : notFixed) {
            CHECK.behind(lines, "90 init 1 3 " + id, -5);
        }
        for (String text : OVER_NODES) {
            for (int n = 0; n < 3; n++) {
                String line = withNode(text, n, notFixed[n]);
                if (line != null) {
                    WordChecker x = CHECK.with(lines);
                    CHECK.line(x, "7 " + line, 7);
                    CHECK.line(x, "8 init 1 3 7", -5);
                    CHECK.line(x, "8 not 1 7", 8);
                    CHECK.line(x, "9 init 1 3 8", -5);
                }
            }
        }
        WordChecker y = CHECK.with(Samples.baseAnd("9 write 4 5 7 7", "10 read 1 5 7", "11 state 1"));
        CHECK.line(y, "12 init 4 5 5", -5);
        CHECK.line(y, "12 init 4 5 9", -5);
        CHECK.line(y, "12 init 1 11 10", -5);
    }

    private static String joined(String[] words, int count) {
        return String.join(" ", Arrays.copyOf(words, count));
    }

    private static void fromTheFirstWordOn() {
        CHECK.sentence("The words are looked at from the first one on, each for what is said of it above");
        for (String text : Samples.LINES) {
            WordChecker x = CHECK.with(Samples.BASE);
            String[] good = ("90 " + text).split(" ");
            String[] bad = good.clone();
            for (int j = good.length - 1; j >= 0; j--) {
                String[] one = good.clone();
                one[j] = "?";
                bad[j] = "?";
                CHECK.line(x, joined(one, one.length), -1 - j);
                CHECK.line(x, joined(bad, bad.length) + " ?", -1 - j);
            }
        }
    }

    private static void missingWords() {
        CHECK.sentence("a missing word");
        for (String text : Samples.LINES) {
            String[] words = ("90 " + text).split(" ");
            WordChecker x = CHECK.with(Samples.BASE);
            for (int count = 0; count < words.length; count++) {
                CHECK.line(x, joined(words, count), -1 - count);
                CHECK.line(x, joined(words, count) + " ", -1 - count);
            }
            CHECK.line(x, joined(words, words.length), 90);
        }
    }

    private static void oneWordTooMany() {
        CHECK.sentence("or one too many, is at fault at its place");
        for (String text : Samples.LINES) {
            String[] words = ("90 " + text).split(" ");
            WordChecker x = CHECK.with(Samples.BASE);
            CHECK.line(x, "90 " + text + " 1", -1 - words.length);
            CHECK.line(x, "90 " + text + " 7 7", -1 - words.length);
            CHECK.line(x, "90 " + text + " ;", -1 - words.length);
            CHECK.line(x, "90 " + text + " ", 90);
        }
    }
}
