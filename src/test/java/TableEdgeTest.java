/** The edges of the table of the kinds of line: a test for each sentence of it. */
public final class TableEdgeTest {
    private static final Checks CHECK = new Checks();

    /** Bits of widths 1 to 3 and arrays of elements of widths 1 and 2; nodes 10 to 13; states have 6 bits. */
    private static final String[] LINES = {
        "1 sort bitvec 1", "2 sort bitvec 2", "3 sort bitvec 3", "4 sort array 1 1", "5 sort array 1 2",
        "10 input 1", "11 state 2", "12 constd 3 5", "13 state 5"
    };
    private static final String[] BINARY = {
        "and", "or", "xor", "add", "sub", "mul", "udiv", "urem", "sll", "srl"
    };

    public static void main(String[] args) {
        sortBitvec();
        sortArray();
        inputsAreBits();
        bitsOfInputs();
        bitsOfStates();
        constants();
        oneNode();
        negWraps();
        redor();
        twoNodes();
        reckoningWraps();
        divisionByZero();
        remainderByZero();
        shifts();
        hardLines();
        eq();
        less();
        signedLess();
        concat();
        sliceUpper();
        sliceLower();
        extending();
        ite();
        read();
        write();
        init();
        next();
        badAndConstraint();
        CHECK.end();
    }

    private static void faults(String... textsAndAnswers) {
        WordChecker x = CHECK.with(LINES);
        for (int i = 0; i < textsAndAnswers.length; i += 2) {
            CHECK.line(x, "90 " + textsAndAnswers[i], Integer.parseInt(textsAndAnswers[i + 1]));
        }
    }

    private static void good(String... texts) {
        for (String text : texts) {
            CHECK.behind(LINES, "90 " + text, 90);
        }
    }

    private static void sortBitvec() {
        CHECK.sentence("sort bitvec W: BITS of width W.");
        faults("sort bitvec 0", "-4", "sort bitvec 4", "-4", "sort Bitvec 1", "-3", "sort bitve 1", "-3",
            "sort bitvecs 1", "-3", "sort 1", "-3");
        good("sort bitvec 1", "sort bitvec 2", "sort bitvec 3");
        for (int w = 1; w <= 3; w++) {
            WordChecker x = CHECK.with("1 sort bitvec " + w, "2 state 1");
            x.begin(-1);
            CHECK.due("the greatest value of width " + w, x.value(2), (1 << w) - 1);
        }
    }

    private static void sortArray() {
        CHECK.sentence("sort array I E: an array of elements of the sort E; I and E are bits, I of width 1.");
        faults("sort array 2 1", "-4", "sort array 3 1", "-4", "sort array 4 1", "-4", "sort array 10 1", "-4",
            "sort array 90 1", "-4", "sort array 9 1", "-4", "sort array 0 1", "-4", "sort array 1 4", "-5",
            "sort array 1 10", "-5", "sort array 1 90", "-5", "sort array 1 9", "-5", "sort array 1 0", "-5",
            "sort array 2 4", "-4", "sort arrays 1 1", "-3", "sort Array 1 1", "-3");
        good("sort array 1 1", "sort array 1 2", "sort array 1 3");
    }

    private static void inputsAreBits() {
        CHECK.sentence("input S: bits");
        WordChecker x = CHECK.with("1 sort bitvec 1", "2 sort array 1 1", "3 state 1");
        CHECK.line(x, "4 input 2", -3);
        CHECK.line(x, "4 input 3", -3);
        CHECK.line(x, "4 input 4", -3);
        CHECK.line(x, "4 input 0", -3);
        CHECK.line(x, "4 state 3", -3);
        CHECK.line(x, "4 state 2", 4);
        CHECK.line(x, "5 input 1", 5);
    }

    private static final String[] SORTS = {
        "1 sort bitvec 1", "2 sort bitvec 2", "3 sort bitvec 3", "4 sort array 1 1", "5 sort array 1 2",
        "6 sort array 1 3"
    };
    private static final int[] BITS = {0, 1, 2, 3, 2, 4, 6};

    private static void bitsOfInputs() {
        CHECK.sentence("All inputs together have at most 2 bits.");
        for (int first = 1; first <= 3; first++) {
            CHECK.behind(SORTS, "10 input " + first, first <= 2 ? 10 : -3);
            for (int second = 1; second <= 3 && first <= 2; second++) {
                CHECK.behind(Samples.both(SORTS, "10 input " + first), "11 input " + second,
                    first + second <= 2 ? 11 : -3);
            }
        }
        WordChecker x = CHECK.with(Samples.both(SORTS, "10 input 1", "11 input 1", "12 state 1"));
        for (int sort = 1; sort <= 3; sort++) {
            CHECK.line(x, "13 input " + sort, -3);
        }
        x.begin(1);
        x.feed(2);
        CHECK.due("the first input", x.value(10), 0);
        CHECK.due("the second input", x.value(11), 1);
        CHECK.line(x, "13 state 2", 13);
    }

    private static void bitsOfStates() {
        CHECK.sentence("All states together have at most 6 bits (an array has 2 * its elements' width).");
        for (int a = 1; a <= 6; a++) {
            CHECK.behind(SORTS, "10 state " + a, 10);
            for (int b = 1; b <= 6; b++) {
                int two = BITS[a] + BITS[b];
                String[] first = Samples.both(SORTS, "10 state " + a);
                CHECK.behind(first, "11 state " + b, two <= 6 ? 11 : -3);
                for (int c = 1; c <= 6 && two <= 6; c++) {
                    CHECK.behind(Samples.both(first, "11 state " + b), "12 state " + c,
                        two + BITS[c] <= 6 ? 12 : -3);
                }
            }
        }
        WordChecker x = CHECK.with("1 sort bitvec 1", "2 input 1", "3 input 1", "4 state 1", "5 state 1", "6 state 1",
            "7 state 1", "8 state 1", "9 state 1");
        CHECK.line(x, "10 state 1", -3);
        x.begin(0b101011);
        for (int id = 4; id <= 9; id++) {
            CHECK.due("state " + id, x.value(id), (0b101011 >> (id - 4)) & 1);
        }
    }

    private static void constants() {
        CHECK.sentence("constd S V: S is bits; the number V, less than 2^width.");
        for (int w = 1; w <= 3; w++) {
            for (int v = 0; v <= 99; v++) {
                WordChecker x = CHECK.with("1 sort bitvec " + w);
                CHECK.line(x, "2 constd 1 " + v, v < 1 << w ? 2 : -4);
                x.begin(0);
                CHECK.due("constant " + v + " of width " + w, x.value(2), v < 1 << w ? v : -1);
            }
        }
        faults("constd 4 0", "-3", "constd 10 0", "-3", "constd 9 0", "-3");
    }

    private static void oneNode() {
        CHECK.sentence("not S a, neg S a: S is bits, a is as S");
        String[] kinds = {"not", "neg"};
        for (String kind : kinds) {
            faults(kind + " 5 13", "-3", kind + " 11 11", "-3", kind + " 2 10", "-4", kind + " 2 12", "-4",
                kind + " 2 13", "-4", kind + " 2 2", "-4", kind + " 2 90", "-4", kind + " 2 9", "-4", kind + " 2 0",
                "-4");
            good(kind + " 1 10", kind + " 2 11", kind + " 3 12");
        }
    }

    private static void negWraps() {
        CHECK.sentence("all bits turned over; 2^w less the value, mod 2^w");
        for (int w = 1; w <= 3; w++) {
            WordChecker x = CHECK.with("1 sort bitvec " + w, "2 state 1", "3 neg 1 2", "4 not 1 2");
            int m = 1 << w;
            for (int v = 0; v < m; v++) {
                x.begin(v);
                CHECK.due("neg " + v + " of width " + w, x.value(3), v == 0 ? 0 : m - v);
                CHECK.due("not " + v + " of width " + w, x.value(4), m - 1 - v);
            }
        }
    }

    private static void redor() {
        CHECK.sentence("redor S a: S is bits of width 1, a is bits: 1 if a is not 0.");
        faults("redor 2 11", "-3", "redor 4 13", "-3", "redor 1 13", "-4", "redor 1 1", "-4");
        good("redor 1 10", "redor 1 11", "redor 1 12");
        for (int w = 1; w <= 3; w++) {
            WordChecker x = CHECK.with("1 sort bitvec 1", "2 sort bitvec " + w, "3 state 2", "4 redor 1 3");
            for (int v = 0; v < 1 << w; v++) {
                x.begin(v);
                CHECK.due("redor " + v + " of width " + w, x.value(4), v == 0 ? 0 : 1);
            }
        }
    }

    private static void twoNodes() {
        CHECK.sentence("and, or, xor, add, sub, mul, udiv, urem, sll, srl S a b: S is bits, a and b are as S");
        for (String kind : BINARY) {
            faults(kind + " 5 13 13", "-3", kind + " 10 10 10", "-3", kind + " 9 11 11", "-3", kind + " 2 10 11", "-4",
                kind + " 2 12 11", "-4", kind + " 2 13 11", "-4", kind + " 2 11 10", "-5", kind + " 2 11 12", "-5",
                kind + " 2 11 13", "-5", kind + " 2 11 2", "-5", kind + " 2 90 11", "-4", kind + " 2 11 90", "-5");
            good(kind + " 1 10 10", kind + " 2 11 11", kind + " 3 12 12");
        }
    }

    /** The values of the kind for all a and b of the width: at a + b * 2^w. */
    private static int[] valuesOf(String kind, int w) {
        int m = 1 << w;
        int[] values = new int[m * m];
        WordChecker x = CHECK.with("1 sort bitvec 1", "2 sort bitvec " + w, "3 state 2", "4 state 2",
            "5 " + kind + " 3 4");
        for (int i = 0; i < m * m; i++) {
            x.begin(i);
            values[i] = x.value(5);
            CHECK.due(kind + " of constants " + i % m + " and " + i / m + ", width " + w,
                valueOf(kind, w, i % m, i / m), values[i]);
        }
        return values;
    }

    /** The value of the kind for two constants, in a system without states. */
    private static int valueOf(String kind, int w, int a, int b) {
        WordChecker x = CHECK.with("1 sort bitvec 1", "2 sort bitvec " + w, "3 constd 2 " + a, "4 constd 2 " + b,
            "5 " + kind + " 3 4");
        x.begin(0);
        return x.value(5);
    }

    private static void reckoningWraps() {
        CHECK.sentence("by bits; mod 2^w");
        for (int w = 1; w <= 3; w++) {
            int m = 1 << w;
            int[] add = valuesOf("add 2", w);
            int[] sub = valuesOf("sub 2", w);
            int[] mul = valuesOf("mul 2", w);
            int[] and = valuesOf("and 2", w);
            int[] or = valuesOf("or 2", w);
            int[] xor = valuesOf("xor 2", w);
            for (int i = 0; i < m * m; i++) {
                int a = i % m;
                int b = i / m;
                String of = " of " + a + " and " + b + ", width " + w;
                CHECK.due("add" + of, add[i], a + b < m ? a + b : a + b - m);
                CHECK.due("sub" + of, sub[i], a >= b ? a - b : a - b + m);
                CHECK.due("mul" + of, mul[i], a * b % m);
                CHECK.due("and" + of, and[i], a & b);
                CHECK.due("or" + of, or[i], a | b);
                CHECK.due("xor" + of, xor[i], a ^ b);
            }
        }
    }

    private static void divisionByZero() {
        CHECK.sentence("udiv rounds down, and is 2^w - 1 if b is 0");
        for (int w = 1; w <= 3; w++) {
            int m = 1 << w;
            int[] udiv = valuesOf("udiv 2", w);
            for (int i = 0; i < m * m; i++) {
                int a = i % m;
                int b = i / m;
                CHECK.due(a + " by " + b + ", width " + w, udiv[i], b == 0 ? m - 1 : a / b);
            }
        }
    }

    private static void remainderByZero() {
        CHECK.sentence("urem is a if b is 0");
        for (int w = 1; w <= 3; w++) {
            int m = 1 << w;
            int[] urem = valuesOf("urem 2", w);
            for (int i = 0; i < m * m; i++) {
                int a = i % m;
                int b = i / m;
                CHECK.due(a + " by " + b + ", width " + w, urem[i], b == 0 ? a : a % b);
            }
        }
    }

    private static void shifts() {
        CHECK.sentence("a shifted left (mod 2^w) or right by b places");
        for (int w = 1; w <= 3; w++) {
            int m = 1 << w;
            int[] sll = valuesOf("sll 2", w);
            int[] srl = valuesOf("srl 2", w);
            for (int i = 0; i < m * m; i++) {
                int a = i % m;
                int b = i / m;
                String of = a + " by " + b + " places, width " + w;
                CHECK.due("left: " + of, sll[i], b >= w ? 0 : (a << b) % m);
                CHECK.due("right: " + of, srl[i], b >= w ? 0 : a >> b);
            }
        }
    }

    private static void hardLines() {
        CHECK.sentence("There are at most 2 lines with mul, udiv or urem.");
        String[] hard = {"mul", "udiv", "urem"};
        for (String one : hard) {
            for (String two : hard) {
                for (String three : hard) {
                    WordChecker x = CHECK.with(LINES);
                    CHECK.line(x, "20 " + one + " 2 11 11", 20);
                    CHECK.line(x, "21 " + two + " 3 12 12", 21);
                    CHECK.line(x, "22 " + three + " 1 10 10", -2);
                    CHECK.line(x, "22 add 1 10 10", 22);
                }
            }
        }
    }

    /** An array of elements with three bits, 4; an input, 6; the array with 1 written to element 1, 8. */
    private static final String[] WIDE = {
        "1 sort bitvec 1", "2 sort bitvec 3", "3 sort array 1 2", "4 state 3", "5 constd 2 1", "6 input 1",
        "7 constd 1 1", "8 write 3 4 7 5"
    };

    private static void eq() {
        CHECK.sentence("eq S a b: S is bits of width 1, b has the sort of a: 1 if they are equal.");
        faults("eq 2 11 11", "-3", "eq 4 13 13", "-3", "eq 1 11 10", "-5", "eq 1 11 12", "-5", "eq 1 11 13", "-5",
            "eq 1 13 11", "-5", "eq 1 1 11", "-4", "eq 1 11 2", "-5", "eq 1 90 11", "-4", "eq 1 11 90", "-5");
        good("eq 1 10 10", "eq 1 11 11", "eq 1 12 12", "eq 1 13 13");
        for (int w = 1; w <= 3; w++) {
            int[] eq = valuesOf("eq 1", w);
            for (int i = 0; i < eq.length; i++) {
                CHECK.due("eq " + i + ", width " + w, eq[i], i % (1 << w) == i >> w ? 1 : 0);
            }
        }
        WordChecker x = CHECK.with("1 sort bitvec 1", "2 sort array 1 1", "3 state 2", "4 state 2", "5 eq 1 3 4");
        for (int i = 0; i < 16; i++) {
            x.begin(i);
            CHECK.due("eq of arrays " + i, x.value(5), i % 4 == i / 4 ? 1 : 0);
        }
        // Of elements with three bits there is no second state: the array with 1 written to element 1.
        WordChecker y = CHECK.with(Samples.both(WIDE, "9 eq 1 4 8"));
        for (int i = 0; i < 64; i++) {
            y.begin(i);
            CHECK.due("eq of wide arrays " + i, y.value(9), i / 8 == 1 ? 1 : 0);
        }
    }

    private static void less() {
        CHECK.sentence("ult, slt S a b: S is bits of width 1, a is bits, b as a: 1 if a is less than b, as they are");
        String[] kinds = {"ult", "slt"};
        for (String kind : kinds) {
            faults(kind + " 2 11 11", "-3", kind + " 4 11 11", "-3", kind + " 1 13 13", "-4", kind + " 1 11 10", "-5",
                kind + " 1 11 12", "-5", kind + " 1 11 13", "-5", kind + " 1 11 1", "-5", kind + " 1 90 11", "-4");
            good(kind + " 1 10 10", kind + " 1 11 11", kind + " 1 12 12");
        }
        for (int w = 1; w <= 3; w++) {
            int[] ult = valuesOf("ult 1", w);
            for (int i = 0; i < ult.length; i++) {
                CHECK.due("ult " + i + ", width " + w, ult[i], i % (1 << w) < i >> w ? 1 : 0);
            }
        }
    }

    private static void signedLess() {
        CHECK.sentence("or as signed numbers (the highest bit counts negative)");
        CHECK.due("1 of width 1 is less than 0", valuesOf("slt 1", 1)[1], 1);
        CHECK.due("0 of width 1 is not less than 1", valuesOf("slt 1", 1)[2], 0);
        for (int w = 1; w <= 3; w++) {
            int m = 1 << w;
            int[] slt = valuesOf("slt 1", w);
            for (int i = 0; i < slt.length; i++) {
                int a = i % m < m / 2 ? i % m : i % m - m;
                int b = i / m < m / 2 ? i / m : i / m - m;
                CHECK.due(a + " less than " + b + ", width " + w, slt[i], a < b ? 1 : 0);
            }
        }
    }

    private static void concat() {
        CHECK.sentence("concat S a b: S is bits, a is bits of a smaller width, b is bits of the rest: "
            + "a * 2^(width of b) + b.");
        int[] node = {0, 10, 11, 12};
        for (int s = 1; s <= 3; s++) {
            for (int a = 1; a <= 3; a++) {
                for (int b = 1; b <= 3; b++) {
                    int want = a >= s ? -4 : a + b == s ? 90 : -5;
                    CHECK.behind(LINES, "90 concat " + s + " " + node[a] + " " + node[b], want);
                }
            }
        }
        faults("concat 4 10 10", "-3", "concat 5 11 11", "-3", "concat 3 13 10", "-4", "concat 3 10 13", "-5",
            "concat 2 1 10", "-4", "concat 2 10 1", "-5");
        for (int a = 1; a <= 2; a++) {
            for (int b = 1; a + b <= 3; b++) {
                WordChecker x = CHECK.with("1 sort bitvec " + a, "2 sort bitvec " + b, "3 sort bitvec " + (a + b),
                    "4 state 1", "5 state 2", "6 concat 3 4 5");
                for (int i = 0; i < 1 << (a + b); i++) {
                    int low = i >> a;
                    x.begin(i);
                    CHECK.due("concat of widths " + a + ", " + b, x.value(6), i % (1 << a) * (1 << b) + low);
                }
            }
        }
    }

    private static void sliceUpper() {
        CHECK.sentence("slice S a U L: S is bits, a is bits, U is a number less than a's width");
        faults("slice 4 11 1 0", "-3", "slice 5 13 1 0", "-3", "slice 2 13 1 0", "-4", "slice 1 1 0 0", "-4",
            "slice 1 90 0 0", "-4", "slice 1 10 1 1", "-5", "slice 1 11 2 2", "-5", "slice 1 12 3 3", "-5",
            "slice 1 12 99 99", "-5", "slice 2 11 2 1", "-5", "slice 1 11 -1 -1", "-5");
        good("slice 1 10 0 0", "slice 1 11 1 1", "slice 1 12 2 2", "slice 3 12 2 0");
    }

    private static void sliceLower() {
        CHECK.sentence("L a number of which U - L + 1 is S's width: the bits U .. L of a.");
        for (int w = 1; w <= 3; w++) {
            for (int s = 1; s <= 3; s++) {
                for (int upper = 0; upper < w; upper++) {
                    for (int lower = 0; lower <= 4; lower++) {
                        slice(w, s, upper, lower);
                    }
                }
            }
        }
        faults("slice 1 12 1 -1", "-6", "slice 3 12 1 -1", "-6", "slice 1 12 0 1", "-6", "slice 2 12 0 99", "-6");
    }

    private static void slice(int w, int s, int upper, int lower) {
        WordChecker x = CHECK.with("1 sort bitvec " + w, "2 sort bitvec " + s, "3 state 1");
        boolean fits = upper - lower + 1 == s;
        CHECK.line(x, "4 slice 2 3 " + upper + " " + lower, fits ? 4 : -6);
        for (int v = 0; v < 1 << w && fits; v++) {
            x.begin(v);
            CHECK.due("bits " + upper + " .. " + lower + " of " + v, x.value(4), (v >> lower) % (1 << s));
        }
    }

    private static void extending() {
        CHECK.sentence("uext, sext S a N: S is bits, a is bits, its width plus the number N is S's: "
            + "with zeros, or a's highest bit, before it.");
        for (int w = 1; w <= 3; w++) {
            for (int s = 1; s <= 3; s++) {
                for (int n = 0; n <= 4; n++) {
                    extend(w, s, n);
                }
            }
        }
        String[] kinds = {"uext", "sext"};
        for (String kind : kinds) {
            faults(kind + " 4 11 0", "-3", kind + " 5 13 0", "-3", kind + " 2 13 0", "-4", kind + " 2 2 0", "-4",
                kind + " 2 90 0", "-4", kind + " 1 11 -1", "-5", kind + " 2 11 99", "-5", kind + " 3 10 02", "-5");
        }
    }

    private static void extend(int w, int s, int n) {
        WordChecker x = CHECK.with("1 sort bitvec " + w, "2 sort bitvec " + s, "3 state 1");
        boolean fits = w + n == s;
        CHECK.line(x, "4 uext 2 3 " + n, fits ? 4 : -5);
        CHECK.line(x, "5 sext 2 3 " + n, fits ? 5 : -5);
        for (int v = 0; v < 1 << w && fits; v++) {
            x.begin(v);
            int ones = v >= 1 << (w - 1) ? (1 << s) - (1 << w) : 0;
            CHECK.due("uext of " + v + ", width " + w + " to " + s, x.value(4), v);
            CHECK.due("sext of " + v + ", width " + w + " to " + s, x.value(5), v + ones);
        }
    }

    private static void ite() {
        CHECK.sentence("ite S c a b: c is bits of width 1, a and b are as S: a if c is 1, else b.");
        faults("ite 10 10 10 10", "-3", "ite 2 11 11 11", "-4", "ite 2 12 11 11", "-4", "ite 2 13 11 11", "-4",
            "ite 2 1 11 11", "-4", "ite 2 10 10 11", "-5", "ite 2 10 12 11", "-5", "ite 2 10 13 11", "-5",
            "ite 2 10 11 10", "-6", "ite 2 10 11 12", "-6", "ite 2 10 11 13", "-6", "ite 5 10 11 13", "-5",
            "ite 5 10 13 11", "-6", "ite 4 10 13 13", "-5");
        good("ite 1 10 10 10", "ite 2 10 11 11", "ite 3 10 12 12", "ite 5 10 13 13");
        WordChecker x = CHECK.with("1 sort bitvec 1", "2 sort array 1 1", "3 state 2", "4 state 2", "5 input 1",
            "6 ite 2 5 3 4");
        for (int i = 0; i < 16; i++) {
            x.begin(i);
            CHECK.due("else, " + i, x.value(6), i / 4);
            x.feed(1);
            CHECK.due("if, " + i, x.value(6), i % 4);
        }
        WordChecker y = CHECK.with(Samples.both(WIDE, "9 ite 3 6 8 4"));
        for (int i = 0; i < 64; i++) {
            y.begin(i);
            CHECK.due("else, wide, " + i, y.value(9), i);
            y.feed(1);
            CHECK.due("if, wide, " + i, y.value(9), i % 8 + 8);
        }
    }

    private static void read() {
        CHECK.sentence("read S a i: S is bits, a is an array of elements as S, i is bits of width 1: element i.");
        faults("read 5 13 10", "-3", "read 4 13 10", "-3", "read 1 13 10", "-4", "read 3 13 10", "-4", "read 2 11 10",
            "-4", "read 2 5 10", "-4", "read 2 13 11", "-5", "read 2 13 12", "-5", "read 2 13 13", "-5", "read 2 13 1",
            "-5");
        good("read 2 13 10", "read 2 13 -10");
        for (int w = 1; w <= 3; w++) {
            WordChecker x = CHECK.with("1 sort bitvec 1", "2 sort bitvec " + w, "3 sort array 1 2", "4 state 3",
                "5 input 1", "6 read 2 4 5");
            int m = 1 << w;
            for (int v = 0; v < m * m; v++) {
                x.begin(v);
                CHECK.due("element 0 of " + v, x.value(6), v % m);
                x.feed(1);
                CHECK.due("element 1 of " + v, x.value(6), v / m);
            }
        }
    }

    private static void write() {
        CHECK.sentence("write S a i v: S is an array, a is as S, i is bits of width 1, v is as its elements: "
            + "a with element i replaced by v.");
        faults("write 2 13 10 11", "-3", "write 1 11 10 10", "-3", "write 13 13 10 11", "-3", "write 4 13 10 10", "-4",
            "write 5 11 10 11", "-4", "write 5 5 10 11", "-4", "write 5 13 11 11", "-5", "write 5 13 13 11", "-5",
            "write 5 13 1 11", "-5", "write 5 13 10 10", "-6", "write 5 13 10 12", "-6", "write 5 13 10 13", "-6",
            "write 5 13 10 2", "-6");
        good("write 5 13 10 11", "write 5 13 -10 -11");
        WordChecker x = CHECK.with("1 sort bitvec 1", "2 sort bitvec 2", "3 sort array 1 2", "4 state 3", "5 state 2",
            "6 input 1", "7 write 3 4 6 5");
        for (int bits = 0; bits < 64; bits++) {
            x.begin(bits);
            CHECK.due("element 0 replaced, " + bits, x.value(7), bits / 4 % 4 * 4 + bits / 16);
            x.feed(1);
            CHECK.due("element 1 replaced, " + bits, x.value(7), bits % 4 + bits / 16 * 4);
        }
        for (int w = 1; w <= 3; w += 2) {
            WordChecker y = CHECK.with("1 sort bitvec 1", "2 sort bitvec " + w, "3 sort array 1 2", "4 state 3",
                "5 constd 2 1", "6 input 1", "7 write 3 4 6 5");
            int m = 1 << w;
            for (int v = 0; v < m * m; v++) {
                y.begin(v);
                CHECK.due("1 in element 0 of " + v + ", width " + w, y.value(7), v / m * m + 1);
                y.feed(1);
                CHECK.due("1 in element 1 of " + v + ", width " + w, y.value(7), v % m + m);
            }
        }
    }

    private static void init() {
        CHECK.sentence("init S a v: a is a state as S (without -) that has no init yet, v is as S and FIXED: "
            + "a's value at step 0.");
        String[] lines = Samples.both(LINES, "14 constd 2 2", "15 constd 1 1", "16 add 2 14 -14");
        WordChecker x = CHECK.with(lines);
        CHECK.line(x, "90 init 11 11 14", -3);
        CHECK.line(x, "90 init 2 -11 14", -4);
        CHECK.line(x, "90 init 1 11 15", -4);
        CHECK.line(x, "90 init 3 11 12", -4);
        CHECK.line(x, "90 init 5 11 14", -4);
        CHECK.line(x, "90 init 1 10 15", -4);
        CHECK.line(x, "90 init 2 14 14", -4);
        CHECK.line(x, "90 init 2 2 14", -4);
        CHECK.line(x, "90 init 2 11 15", -5);
        CHECK.line(x, "90 init 2 11 12", -5);
        CHECK.line(x, "90 init 2 11 11", -5);
        CHECK.line(x, "90 init 1 11 10", -4);
        CHECK.line(x, "90 init 2 11 13", -5);
        CHECK.line(x, "90 init 5 13 13", -5);
        CHECK.line(x, "90 init 2 11 -14", 90);
        CHECK.line(x, "91 init 2 11 14", -4);
        CHECK.line(x, "91 init 2 11 -14", -4);
        CHECK.line(x, "91 next 2 11 14", 91);
        x.begin(-1);
        CHECK.due("the value at step 0", x.value(11), 1);
        x.step();
        CHECK.due("the value at step 1", x.value(11), 2);
        WordChecker y = CHECK.with(Samples.both(lines, "90 init 2 11 16"));
        y.begin(0);
        CHECK.due("2 and 1", y.value(11), 3);
        WordChecker between = CHECK.with("1 sort bitvec 1", "2 sort bitvec 2", "3 state 1", "4 state 2", "5 state 1",
            "6 constd 2 2", "7 init 2 4 -6");
        for (int bits = 0; bits < 4; bits++) {
            between.begin(bits);
            CHECK.due("between states without init, " + bits, between.value(4), 1);
            CHECK.due("the state before it, " + bits, between.value(3), bits & 1);
            CHECK.due("the state behind it, " + bits, between.value(5), bits >> 1);
        }
    }

    private static void next() {
        CHECK.sentence("next S a v: a is a state as S (without -) that has no next yet, v is as S: "
            + "a's value at the step after.");
        WordChecker x = CHECK.with(Samples.both(LINES, "14 constd 2 2"));
        CHECK.line(x, "90 next 11 11 14", -3);
        CHECK.line(x, "90 next 2 -11 14", -4);
        CHECK.line(x, "90 next 1 11 10", -4);
        CHECK.line(x, "90 next 5 11 14", -4);
        CHECK.line(x, "90 next 1 10 10", -4);
        CHECK.line(x, "90 next 2 14 14", -4);
        CHECK.line(x, "90 next 2 13 14", -4);
        CHECK.line(x, "90 next 2 11 10", -5);
        CHECK.line(x, "90 next 2 11 13", -5);
        CHECK.line(x, "90 next 2 11 2", -5);
        CHECK.line(x, "90 next 2 11 -11", 90);
        CHECK.line(x, "91 next 2 11 14", -4);
        CHECK.line(x, "91 init 2 11 14", 91);
        CHECK.line(x, "92 next 5 13 13", 92);
        x.begin(0);
        CHECK.due("the value at step 0", x.value(11), 2);
        x.step();
        CHECK.due("the value at step 1", x.value(11), 1);
        WordChecker y = CHECK.with(Samples.both(WIDE, "9 next 3 4 8"));
        y.begin(63);
        y.step();
        CHECK.due("of an array, all bits", y.value(4), 15);
    }

    private static void badAndConstraint() {
        CHECK.sentence("bad a, constraint a: a is bits of width 1.");
        String[] kinds = {"bad", "constraint"};
        for (String kind : kinds) {
            faults(kind + " 11", "-3", kind + " 12", "-3", kind + " 13", "-3", kind + " 1", "-3", kind + " 90", "-3",
                kind + " 9", "-3", kind + " 0", "-3", kind + " -11", "-3");
            good(kind + " 10", kind + " -10");
        }
    }
}
