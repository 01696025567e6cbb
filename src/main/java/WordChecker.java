/**
 * Reads small transition systems over words and arrays, line by line; runs them; and looks, by gates
 * and their solving, for the shortest way to something bad, for the least run that shows it, and for
 * an inductive argument that there is none.
 *
 * <p>All states together have at most 6 bits and all inputs at most 2. So a wire (one bit of a node)
 * is a function of 8 bits, and is held whole: four longs, one for each value of the inputs, with one
 * bit (a LANE) for each value of the states. A gate is then one operation on longs, and a set of
 * states is one long.
 */
public final class WordChecker {
    private static final int MAX_TYPED = 40;
    private static final int MAX_WORDS = MAX_TYPED / 2;
    private static final int MAX_LINES = 20;
    private static final int MAX_WIDTH = 3;
    private static final int MAX_STATE_BITS = 6;
    private static final int MAX_INPUT_BITS = 2;
    private static final int MAX_HARD_LINES = 2;
    private static final int MAX_FIND = 3;
    private static final int MAX_PROVE = 2;

    private static final int REFUSED = -2;
    private static final int NONE = -1;
    private static final int FULL = -100;

    /** A sort is a number: its width for bits, ARRAY plus its elements' width for an array. */
    private static final int ARRAY = 4;
    private static final int ONE_BIT = 1;

    private static final int INPUT_VALUES = 1 << MAX_INPUT_BITS;
    private static final long ALL = -1L;

    /** For each bit of the states the lanes in which it is 1. */
    private static final long[] LANES = {
        0xAAAAAAAAAAAAAAAAL, 0xCCCCCCCCCCCCCCCCL, 0xF0F0F0F0F0F0F0F0L,
        0xFF00FF00FF00FF00L, 0xFFFF0000FFFF0000L, 0xFFFFFFFF00000000L
    };

    private static final Kind[] KINDS = Kind.values();

    private final Text text;
    private final Book book;
    private final Draft draft;
    private final Search search;
    private boolean running;
    private int state;
    private int input;

    public WordChecker() {
        text = new Text();
        book = new Book();
        draft = new Draft(text, book);
        search = new Search(book);
    }

    public boolean type(int word, int n) {
        return text.append(word, n);
    }

    public int line() {
        text.split();
        int fault = draft.firstFault();
        text.clear();
        if (fault >= 0) {
            return -1 - fault;
        }
        if (book.count >= MAX_LINES) {
            return FULL;
        }
        book.take(draft);
        running = false;
        search.drop();
        return draft.id;
    }

    public int lines() {
        return book.count;
    }

    public void begin(int x) {
        running = true;
        state = book.startWith(x);
        input = 0;
    }

    public boolean feed(int y) {
        if (!running) {
            return false;
        }
        input = y & ((1 << book.inputBits) - 1);
        return true;
    }

    public boolean step() {
        if (!running) {
            return false;
        }
        state = book.after(state, input);
        input = 0;
        return true;
    }

    public int value(int id) {
        return running ? book.valueOf(id, state, input) : NONE;
    }

    public int find(int k) {
        if (k < 0 || k > MAX_FIND) {
            return REFUSED;
        }
        return search.leastBad(k);
    }

    public int shown(int step, int id) {
        if (step < 0 || step >= search.steps) {
            return NONE;
        }
        return book.valueOf(id, search.states[step], search.inputs[step]);
    }

    public int prove(int k) {
        if (k < 0 || k > MAX_PROVE) {
            return REFUSED;
        }
        if (search.leastBad(k) != NONE) {
            return 2;
        }
        return search.hasStretch(k + 1) ? 0 : 1;
    }

    private static boolean isArray(int sort) {
        return sort > ARRAY;
    }

    /** The number of bits that a value of the sort has. */
    private static int bitsOf(int sort) {
        return isArray(sort) ? 2 * (sort - ARRAY) : sort;
    }

    /** Whether the set of states, or the wire, has a 1 in the lane. */
    private static boolean has(long lanes, int lane) {
        return ((lanes >>> lane) & 1L) != 0;
    }

    /**
     * The kinds of line: the second word, and what is said of each word behind it, one letter a word.
     *
     * <p>A sort: S any, B bits, O bits of width 1, Y an array, I bits that fit among the inputs, T one
     * that fits among the states. A node: n any, b bits, o bits of width 1, s as S, l as the node
     * before it, m bits narrower than S, r bits of the rest of S, y an array of elements as S, e as
     * the elements of S, i a state without init, x a state without next, f as S and fixed. A number:
     * V below 2^width of S, U below the width of the node, L the low end of S bits from U down,
     * N what the node lacks to the width of S.
     */
    private enum Kind {
        SORT("sort", ""), INPUT("input", "I"), STATE("state", "T"), CONSTD("constd", "BV"),
        NOT("not", "Bs"), NEG("neg", "Bs"), REDOR("redor", "Ob"),
        AND("and", "Bss"), OR("or", "Bss"), XOR("xor", "Bss"),
        ADD("add", "Bss"), SUB("sub", "Bss"), MUL("mul", "Bss"),
        UDIV("udiv", "Bss"), UREM("urem", "Bss"), SLL("sll", "Bss"), SRL("srl", "Bss"),
        EQ("eq", "Onl"), ULT("ult", "Obl"), SLT("slt", "Obl"), CONCAT("concat", "Bmr"),
        SLICE("slice", "BbUL"), UEXT("uext", "BbN"), SEXT("sext", "BbN"),
        ITE("ite", "Soss"), READ("read", "Byo"), WRITE("write", "Ysoe"),
        INIT("init", "Sif"), NEXT("next", "Sxs"), BAD("bad", "o"), CONSTRAINT("constraint", "o");

        private final String word;
        private final String form;

        Kind(String word, String form) {
            this.word = word;
            this.form = form;
        }

        boolean isNode() {
            return this != SORT && this != INIT && this != NEXT && this != BAD && this != CONSTRAINT;
        }

        /** Of these the document allows only two lines. */
        boolean isHard() {
            return this == MUL || this == UDIV || this == UREM;
        }

        boolean isFree() {
            return this == INPUT || this == STATE;
        }
    }

    /** What is typed, and the words in it. */
    private static final class Text {
        private final char[] typed = new char[MAX_TYPED];
        private final int[] from = new int[MAX_WORDS];
        private final int[] to = new int[MAX_WORDS];
        private int count;
        private int words;

        boolean append(int word, int n) {
            if (n < 1 || n > 4 || count + n > MAX_TYPED) {
                return false;
            }
            for (int i = 0; i < n; i++) {
                int c = byteOf(word, i);
                if (c < 32 || c > 126) {
                    return false;
                }
            }
            for (int i = n - 1; i >= 0; i--) {
                typed[count] = (char) byteOf(word, i);
                count++;
            }
            return true;
        }

        private static int byteOf(int word, int i) {
            return (word >>> (8 * i)) & 255;
        }

        void clear() {
            count = 0;
            words = 0;
        }

        void split() {
            words = 0;
            for (int i = 0; i < count; i++) {
                boolean starts = typed[i] != ' ' && (i == 0 || typed[i - 1] == ' ');
                if (starts && words < MAX_WORDS) {
                    from[words] = i;
                    words++;
                }
                if (typed[i] != ' ' && words > 0) {
                    to[words - 1] = i + 1;
                }
            }
        }

        boolean isWord(int j, String word) {
            if (j >= words || to[j] - from[j] != word.length()) {
                return false;
            }
            for (int i = 0; i < word.length(); i++) {
                if (typed[from[j] + i] != word.charAt(i)) {
                    return false;
                }
            }
            return true;
        }

        boolean hasMinus(int j) {
            return j < words && typed[from[j]] == '-';
        }

        /** The number that word j is behind its first skip characters; NONE if that is no number. */
        int number(int j, int skip) {
            if (j >= words) {
                return NONE;
            }
            int start = from[j] + skip;
            int length = to[j] - start;
            if (length < 1 || length > 2 || (length == 2 && typed[start] == '0')) {
                return NONE;
            }
            int number = 0;
            for (int i = start; i < to[j]; i++) {
                if (typed[i] < '0' || typed[i] > '9') {
                    return NONE;
                }
                number = 10 * number + (typed[i] - '0');
            }
            return number;
        }
    }

    /** One line that was taken. Its sort is, if it is a sort line, the one that it tells. */
    private static final class Line {
        private int id;
        private Kind kind;
        private int sort;
        private boolean fixed;
        /** Of a state or an input: where its lowest bit stands among those of all of them. */
        private int place;
        private int init = NONE;
        private boolean hasNext;
        /** The wire of bit j is, for the inputs' value i, at j * INPUT_VALUES + i. */
        private final long[] wires = new long[MAX_STATE_BITS * INPUT_VALUES];

        int valueAt(int state, int input) {
            int value = 0;
            for (int j = 0; j < bitsOf(sort); j++) {
                if (has(wires[j * INPUT_VALUES + input], state)) {
                    value |= 1 << j;
                }
            }
            return value;
        }
    }

    /** What the typed line says, looked at word by word against the lines before it. */
    private static final class Draft {
        private final Text text;
        private final Book book;
        private int id;
        private Kind kind;
        private int sort;
        private final int[] nodes = new int[3];
        private final boolean[] turned = new boolean[3];
        private int nodeCount;
        /** The sort of the last node that was read. */
        private int nodeSort;
        private int number;
        /** Of a slice: the number before the last one. */
        private int upper;

        Draft(Text text, Book book) {
            this.text = text;
            this.book = book;
        }

        /** The number of the first word at fault; NONE if the line is not faulty. */
        int firstFault() {
            nodeCount = 0;
            id = text.number(0, 0);
            if (id <= book.lastId()) {
                return 0;
            }
            kind = kindOfWord();
            if (kind == null || (kind.isHard() && book.hardLines >= MAX_HARD_LINES)) {
                return 1;
            }
            if (kind == Kind.SORT) {
                return sortLineFault();
            }
            for (int j = 0; j < kind.form.length(); j++) {
                if (!fits(kind.form.charAt(j), j + 2)) {
                    return j + 2;
                }
            }
            return faultOfLength(2 + kind.form.length());
        }

        private Kind kindOfWord() {
            for (int i = 0; i < KINDS.length; i++) {
                if (text.isWord(1, KINDS[i].word)) {
                    return KINDS[i];
                }
            }
            return null;
        }

        private int faultOfLength(int due) {
            return text.words > due ? due : NONE;
        }

        private int sortLineFault() {
            if (text.isWord(2, "bitvec")) {
                sort = text.number(3, 0);
                return sort < 1 || sort > MAX_WIDTH ? 3 : faultOfLength(4);
            }
            if (!text.isWord(2, "array")) {
                return 2;
            }
            if (book.sortOf(text.number(3, 0)) != ONE_BIT) {
                return 3;
            }
            int element = book.sortOf(text.number(4, 0));
            if (element == NONE || isArray(element)) {
                return 4;
            }
            sort = ARRAY + element;
            return faultOfLength(5);
        }

        private boolean fits(int letter, int j) {
            switch (letter) {
                case 'S': case 'B': case 'O': case 'Y': case 'I': case 'T':
                    return sortFits(letter, j);
                case 'V': case 'U': case 'L': case 'N':
                    return numberFits(letter, j);
                default:
                    return nodeFits(letter, j);
            }
        }

        private boolean sortFits(int letter, int j) {
            sort = book.sortOf(text.number(j, 0));
            if (sort == NONE) {
                return false;
            }
            switch (letter) {
                case 'S':
                    return true;
                case 'B':
                    return !isArray(sort);
                case 'O':
                    return sort == ONE_BIT;
                case 'Y':
                    return isArray(sort);
                case 'I':
                    return !isArray(sort) && book.inputBits + bitsOf(sort) <= MAX_INPUT_BITS;
                case 'T':
                    return book.stateBits + bitsOf(sort) <= MAX_STATE_BITS;
                default:
                    return false;
            }
        }

        private boolean numberFits(int letter, int j) {
            upper = number;
            number = text.number(j, 0);
            if (number == NONE) {
                return false;
            }
            switch (letter) {
                case 'V':
                    return number < 1 << sort;
                case 'U':
                    return number < nodeSort;
                case 'L':
                    return upper - number + 1 == sort;
                case 'N':
                    return nodeSort + number == sort;
                default:
                    return false;
            }
        }

        private boolean nodeFits(int letter, int j) {
            boolean minus = text.hasMinus(j);
            int at = book.nodeWith(text.number(j, minus ? 1 : 0));
            if (at == NONE || nodeCount >= nodes.length) {
                return false;
            }
            Line node = book.rows[at];
            if (minus && isArray(node.sort)) {
                return false;
            }
            if (!suits(letter, node, minus)) {
                return false;
            }
            nodes[nodeCount] = at;
            turned[nodeCount] = minus;
            nodeCount++;
            nodeSort = node.sort;
            return true;
        }

        private boolean suits(int letter, Line node, boolean minus) {
            switch (letter) {
                case 'n':
                    return true;
                case 'b':
                    return !isArray(node.sort);
                case 'o':
                    return node.sort == ONE_BIT;
                case 's':
                    return node.sort == sort;
                case 'l':
                    return node.sort == nodeSort;
                case 'm':
                    return node.sort < sort;
                case 'r':
                    return node.sort == sort - nodeSort;
                case 'y':
                    return node.sort == ARRAY + sort;
                case 'e':
                    return node.sort == sort - ARRAY;
                case 'i':
                    return isStateAsS(node, minus) && node.init == NONE;
                case 'x':
                    return isStateAsS(node, minus) && !node.hasNext;
                case 'f':
                    return node.sort == sort && node.fixed;
                default:
                    return false;
            }
        }

        private boolean isStateAsS(Line node, boolean minus) {
            return !minus && node.kind == Kind.STATE && node.sort == sort;
        }
    }

    /** The lines that were taken, and the system that they tell. */
    private static final class Book {
        private final Line[] rows = new Line[MAX_LINES];
        private final Gates gates = new Gates();
        private int count;
        private int inputBits;
        private int stateBits;
        private int hardLines;
        /** The wires of the states' bits at the step after, laid out as those of a line. */
        private final long[] later = new long[MAX_STATE_BITS * INPUT_VALUES];
        /** For each value of the inputs: the states in which some bad is 1, all constraints are 1. */
        private final long[] bad = new long[INPUT_VALUES];
        private final long[] allowed = new long[INPUT_VALUES];

        Book() {
            for (int i = 0; i < MAX_LINES; i++) {
                rows[i] = new Line();
            }
            for (int i = 0; i < INPUT_VALUES; i++) {
                allowed[i] = ALL;
            }
        }

        /** 0 if there are no lines, so that no ID is 0. */
        int lastId() {
            return count > 0 ? rows[count - 1].id : 0;
        }

        private int rowWith(int id) {
            for (int i = 0; i < count; i++) {
                if (rows[i].id == id) {
                    return i;
                }
            }
            return NONE;
        }

        int nodeWith(int id) {
            int at = rowWith(id);
            return at != NONE && rows[at].kind.isNode() ? at : NONE;
        }

        /** The sort that the sort line with that ID tells; NONE if there is no such line. */
        int sortOf(int id) {
            int at = rowWith(id);
            return at != NONE && rows[at].kind == Kind.SORT ? rows[at].sort : NONE;
        }

        void take(Draft draft) {
            if (count >= MAX_LINES) {
                return;
            }
            Line row = rows[count];
            row.id = draft.id;
            row.kind = draft.kind;
            row.sort = draft.sort;
            row.fixed = !draft.kind.isFree() && allFixed(draft);
            count++;
            switch (draft.kind) {
                case SORT:
                    break;
                case INPUT:
                    addInput(row);
                    break;
                case STATE:
                    addState(row);
                    break;
                case INIT:
                    setInit(draft);
                    break;
                case NEXT:
                    setNext(draft);
                    break;
                case BAD:
                    addBad(draft);
                    break;
                case CONSTRAINT:
                    addConstraint(draft);
                    break;
                default:
                    hardLines += draft.kind.isHard() ? 1 : 0;
                    gates.build(draft, row, rows);
                    break;
            }
        }

        private boolean allFixed(Draft draft) {
            for (int j = 0; j < draft.nodeCount; j++) {
                if (!rows[draft.nodes[j]].fixed) {
                    return false;
                }
            }
            return true;
        }

        private void addInput(Line row) {
            row.place = inputBits;
            inputBits += bitsOf(row.sort);
            for (int j = 0; j < bitsOf(row.sort); j++) {
                for (int i = 0; i < INPUT_VALUES; i++) {
                    row.wires[j * INPUT_VALUES + i] = has(i, row.place + j) ? ALL : 0;
                }
            }
        }

        private void addState(Line row) {
            row.place = stateBits;
            stateBits += bitsOf(row.sort);
            for (int j = 0; j < bitsOf(row.sort); j++) {
                for (int i = 0; i < INPUT_VALUES; i++) {
                    row.wires[j * INPUT_VALUES + i] = LANES[row.place + j];
                    later[(row.place + j) * INPUT_VALUES + i] = LANES[row.place + j];
                }
            }
        }

        /** Bit j of the draft's node n, turned over if it has a -, for the inputs' value i. */
        private long wireOf(Draft draft, int n, int j, int i) {
            long wire = rows[draft.nodes[n]].wires[j * INPUT_VALUES + i];
            return draft.turned[n] ? ~wire : wire;
        }

        private void setInit(Draft draft) {
            int init = 0;
            for (int j = 0; j < bitsOf(draft.sort); j++) {
                // The node is fixed, so that any lane and any input tell its value.
                init |= has(wireOf(draft, 1, j, 0), 0) ? 1 << j : 0;
            }
            rows[draft.nodes[0]].init = init;
        }

        private void setNext(Draft draft) {
            Line kept = rows[draft.nodes[0]];
            kept.hasNext = true;
            for (int j = 0; j < bitsOf(draft.sort); j++) {
                for (int i = 0; i < INPUT_VALUES; i++) {
                    later[(kept.place + j) * INPUT_VALUES + i] = wireOf(draft, 1, j, i);
                }
            }
        }

        private void addBad(Draft draft) {
            for (int i = 0; i < INPUT_VALUES; i++) {
                bad[i] |= wireOf(draft, 0, 0, i);
            }
        }

        private void addConstraint(Draft draft) {
            for (int i = 0; i < INPUT_VALUES; i++) {
                allowed[i] &= wireOf(draft, 0, 0, i);
            }
        }

        /** The state at step 0 of which the chosen states take their bits from x. */
        int startWith(int x) {
            int state = 0;
            int rest = x;
            for (int r = 0; r < count; r++) {
                Line row = rows[r];
                if (row.kind == Kind.STATE && row.init != NONE) {
                    state |= row.init << row.place;
                } else if (row.kind == Kind.STATE) {
                    int bits = bitsOf(row.sort);
                    state |= (rest & ((1 << bits) - 1)) << row.place;
                    rest >>>= bits;
                }
            }
            return state;
        }

        /** The states that a run may have at step 0. */
        long starts() {
            long starts = ALL;
            for (int r = 0; r < count; r++) {
                Line row = rows[r];
                if (row.kind == Kind.STATE && row.init != NONE) {
                    for (int j = 0; j < bitsOf(row.sort); j++) {
                        long ones = LANES[row.place + j];
                        starts &= has(row.init, j) ? ones : ~ones;
                    }
                }
            }
            return starts;
        }

        int after(int state, int input) {
            int after = 0;
            for (int v = 0; v < stateBits; v++) {
                if (has(later[v * INPUT_VALUES + input], state)) {
                    after |= 1 << v;
                }
            }
            return after;
        }

        int valueOf(int id, int state, int input) {
            int at = nodeWith(id);
            return at == NONE ? NONE : rows[at].valueAt(state, input);
        }

        /** The least of the states in the order that FINDING tells. The set is not empty. */
        int leastOf(long states) {
            long left = states;
            int least = 0;
            for (int r = 0; r < count; r++) {
                if (rows[r].kind == Kind.STATE) {
                    for (int j = bitsOf(rows[r].sort) - 1; j >= 0; j--) {
                        long ones = LANES[rows[r].place + j];
                        boolean zero = (left & ~ones) != 0;
                        left &= zero ? ~ones : ones;
                        least |= zero ? 0 : 1 << (rows[r].place + j);
                    }
                }
            }
            return least;
        }

        /** The value of the inputs that is the n-th one in the order that FINDING tells. */
        int inputAt(int n) {
            int input = 0;
            int left = inputBits;
            for (int r = 0; r < count; r++) {
                if (rows[r].kind == Kind.INPUT) {
                    int bits = bitsOf(rows[r].sort);
                    left -= bits;
                    input |= ((n >>> left) & ((1 << bits) - 1)) << rows[r].place;
                }
            }
            return input;
        }
    }

    /**
     * Builds the wires of a node from those of the nodes in its line: a, b and c are the bits of the
     * first, second and third one, for one value of the inputs; bits that a node has not are 0, and
     * so are all bits of a node that the line has not.
     */
    private static final class Gates {
        private final long[] a = new long[MAX_STATE_BITS];
        private final long[] b = new long[MAX_STATE_BITS];
        private final long[] c = new long[MAX_STATE_BITS];
        private final long[] out = new long[MAX_STATE_BITS];
        private final long[] rest = new long[MAX_STATE_BITS];
        private final long[] less = new long[MAX_STATE_BITS];
        /** The numbers of bits of out, a and b. */
        private int width;
        private int widthA;
        private int widthB;

        void build(Draft draft, Line row, Line[] rows) {
            width = bitsOf(row.sort);
            widthA = widthOf(draft, 0, rows);
            widthB = widthOf(draft, 1, rows);
            for (int i = 0; i < INPUT_VALUES; i++) {
                load(a, draft, 0, rows, i);
                load(b, draft, 1, rows, i);
                load(c, draft, 2, rows, i);
                clear(out);
                join(draft);
                for (int j = 0; j < width; j++) {
                    row.wires[j * INPUT_VALUES + i] = out[j];
                }
            }
        }

        private static int widthOf(Draft draft, int n, Line[] rows) {
            return n < draft.nodeCount ? bitsOf(rows[draft.nodes[n]].sort) : 0;
        }

        private static void load(long[] bits, Draft draft, int n, Line[] rows, int i) {
            clear(bits);
            int size = widthOf(draft, n, rows);
            for (int j = 0; j < size; j++) {
                long wire = rows[draft.nodes[n]].wires[j * INPUT_VALUES + i];
                bits[j] = draft.turned[n] ? ~wire : wire;
            }
        }

        private static void clear(long[] bits) {
            for (int j = 0; j < bits.length; j++) {
                bits[j] = 0;
            }
        }

        private static long choose(long which, long yes, long no) {
            return (which & yes) | (~which & no);
        }

        private static long carryOf(long x, long y, long carry) {
            return (x & y) | (carry & (x ^ y));
        }

        private void join(Draft draft) {
            switch (draft.kind) {
                case CONSTD:
                    constant(draft.number);
                    break;
                case SLICE:
                    cut(draft.number);
                    break;
                case NOT: case AND: case OR: case XOR: case ITE:
                    joinByBits(draft.kind);
                    break;
                case REDOR: case EQ: case ULT: case SLT:
                    out[0] = compare(draft.kind);
                    break;
                case CONCAT: case UEXT: case SEXT: case READ: case WRITE:
                    arrange(draft.kind);
                    break;
                default:
                    reckon(draft.kind);
                    break;
            }
        }

        private void constant(int number) {
            for (int j = 0; j < width; j++) {
                out[j] = has(number, j) ? ALL : 0;
            }
        }

        private void cut(int lower) {
            for (int j = 0; j < width && lower + j < widthA; j++) {
                out[j] = a[lower + j];
            }
        }

        private void joinByBits(Kind kind) {
            for (int j = 0; j < width; j++) {
                out[j] = joinBit(kind, j);
            }
        }

        private long joinBit(Kind kind, int j) {
            switch (kind) {
                case NOT:
                    return ~a[j];
                case AND:
                    return a[j] & b[j];
                case OR:
                    return a[j] | b[j];
                case XOR:
                    return a[j] ^ b[j];
                default:
                    return choose(a[0], b[j], c[j]);
            }
        }

        private long compare(Kind kind) {
            switch (kind) {
                case REDOR:
                    // A line with one node has only 0 in b.
                    return ~equal();
                case EQ:
                    return equal();
                case SLT:
                    swapHighest();
                    return below();
                default:
                    return below();
            }
        }

        private long equal() {
            long equal = ALL;
            for (int j = 0; j < widthA; j++) {
                equal &= ~(a[j] ^ b[j]);
            }
            return equal;
        }

        /** The one with the highest bit is the less one of signed numbers, but the greater one else. */
        private void swapHighest() {
            if (widthA > 0) {
                long highest = a[widthA - 1];
                a[widthA - 1] = b[widthA - 1];
                b[widthA - 1] = highest;
            }
        }

        private long below() {
            long below = 0;
            for (int j = 0; j < widthA; j++) {
                below = choose(a[j] ^ b[j], b[j], below);
            }
            return below;
        }

        private void arrange(Kind kind) {
            int element = width / 2;
            for (int j = 0; j < width; j++) {
                switch (kind) {
                    case CONCAT:
                        out[j] = j < widthB ? b[j] : a[j - widthB];
                        break;
                    case SEXT:
                        out[j] = j < widthA || widthA < 1 ? a[j] : a[widthA - 1];
                        break;
                    case READ:
                        out[j] = choose(b[0], a[width + j], a[j]);
                        break;
                    case WRITE:
                        out[j] = j < element ? choose(b[0], a[j], c[j]) : choose(b[0], c[j - element], a[j]);
                        break;
                    default:
                        out[j] = a[j];
                        break;
                }
            }
        }

        private void reckon(Kind kind) {
            switch (kind) {
                case NEG:
                    // A line with one node has only 0 in b: this is 0 - a.
                    addUp(b, a, ALL);
                    break;
                case ADD:
                    addUp(a, b, 0);
                    break;
                case SUB:
                    addUp(a, b, ALL);
                    break;
                case MUL:
                    multiply();
                    break;
                case UDIV: case UREM:
                    divide(kind == Kind.UREM);
                    break;
                case SLL:
                    shiftLeft();
                    break;
                default:
                    shiftRight();
                    break;
            }
        }

        /** Where minus is 1 the second number is turned over and 1 more is added: it is taken away. */
        private void addUp(long[] one, long[] other, long minus) {
            long carry = minus;
            for (int j = 0; j < width; j++) {
                long bit = other[j] ^ minus;
                out[j] = one[j] ^ bit ^ carry;
                carry = carryOf(one[j], bit, carry);
            }
        }

        private void multiply() {
            for (int shift = 0; shift < width; shift++) {
                long carry = 0;
                for (int j = shift; j < width; j++) {
                    long bit = a[j - shift] & b[shift];
                    long sum = out[j] ^ bit ^ carry;
                    carry = carryOf(out[j], bit, carry);
                    out[j] = sum;
                }
            }
        }

        /**
         * Long division. Where the divisor is 0 it can be taken away each time, so that all bits come
         * out 1 and the rest is a, which is what the document asks.
         */
        private void divide(boolean wantRest) {
            clear(rest);
            for (int j = width - 1; j >= 0; j--) {
                for (int m = width - 1; m > 0; m--) {
                    rest[m] = rest[m - 1];
                }
                rest[0] = a[j];
                out[j] = takeAway();
            }
            if (wantRest) {
                System.arraycopy(rest, 0, out, 0, width);
            }
        }

        /** Takes b from the rest where it is enough, and answers where; no rest is ever more than a. */
        private long takeAway() {
            long borrow = 0;
            for (int m = 0; m < width; m++) {
                long differ = rest[m] ^ b[m];
                less[m] = differ ^ borrow;
                borrow = (differ & b[m]) | (~differ & borrow);
            }
            for (int m = 0; m < width; m++) {
                rest[m] = (borrow & rest[m]) | (~borrow & less[m]);
            }
            return ~borrow;
        }

        private void shiftLeft() {
            System.arraycopy(a, 0, out, 0, width);
            for (int m = 0; m < width; m++) {
                int places = 1 << m;
                for (int j = width - 1; j >= 0; j--) {
                    out[j] = choose(b[m], j >= places ? out[j - places] : 0, out[j]);
                }
            }
        }

        private void shiftRight() {
            System.arraycopy(a, 0, out, 0, width);
            for (int m = 0; m < width; m++) {
                int places = 1 << m;
                for (int j = 0; j < width; j++) {
                    out[j] = choose(b[m], j + places < width ? out[j + places] : 0, out[j]);
                }
            }
        }
    }

    /** Looks for runs that are bad, and for stretches; keeps the least run. */
    private static final class Search {
        private final Book book;
        /**
         * near[r] is the set of the states from which some inputs lead, over r steps that are not bad,
         * to one that is, with all constraints 1. Finding may leave out runs with a bad step before
         * the last one, as proving must: such a run would have been found with a lesser d.
         */
        private final long[] near = new long[MAX_FIND + 1];
        private final int[] states = new int[MAX_FIND + 1];
        private final int[] inputs = new int[MAX_FIND + 1];
        /** The number of steps of the run that is kept; 0 if none is. */
        private int steps;

        Search(Book book) {
            this.book = book;
        }

        void drop() {
            steps = 0;
        }

        int leastBad(int k) {
            drop();
            long starts = book.starts();
            for (int d = 0; d <= k; d++) {
                gather(d);
                if ((starts & near[d]) != 0) {
                    keep(book.leastOf(starts & near[d]), d);
                    return d;
                }
            }
            return NONE;
        }

        /** Sets near[left] from near[left - 1]. */
        private void gather(int left) {
            near[left] = 0;
            for (int state = 0; state < 1 << book.stateBits; state++) {
                for (int input = 0; input < 1 << book.inputBits; input++) {
                    if (leads(state, input, left)) {
                        near[left] |= 1L << state;
                    }
                }
            }
        }

        private boolean leads(int state, int input, int left) {
            if (!has(book.allowed[input], state) || has(book.bad[input], state) != (left == 0)) {
                return false;
            }
            return left == 0 || has(near[left - 1], book.after(state, input));
        }

        private void keep(int start, int d) {
            int state = start;
            for (int t = 0; t <= d; t++) {
                states[t] = state;
                inputs[t] = leastInput(state, d - t);
                state = book.after(state, inputs[t]);
            }
            steps = d + 1;
        }

        private int leastInput(int state, int left) {
            for (int n = 0; n < 1 << book.inputBits; n++) {
                int input = book.inputAt(n);
                if (leads(state, input, left)) {
                    return input;
                }
            }
            return 0;
        }

        /** Whether there is a stretch whose last step is that one; leastBad has looked before it. */
        boolean hasStretch(int last) {
            gather(last);
            for (int state = 0; state < 1 << book.stateBits; state++) {
                if (has(near[last], state) && stretches(state, 0, last)) {
                    return true;
                }
            }
            return false;
        }

        /** Whether a stretch that has the states seen goes on from this one with left steps more. */
        private boolean stretches(int state, long seen, int left) {
            if (left <= 0) {
                return true;
            }
            long all = seen | 1L << state;
            for (int input = 0; input < 1 << book.inputBits; input++) {
                if (leads(state, input, left)) {
                    int after = book.after(state, input);
                    if (!has(all, after) && stretches(after, all, left - 1)) {
                        return true;
                    }
                }
            }
            return false;
        }
    }
}
