import java.util.ArrayList;
import java.util.HashMap;
import java.util.List;
import java.util.Map;

/**
 * The document once more, told in another way, for comparison: values are plain numbers, runs are
 * tried one by one in their order. It is slow and shares no code with the program.
 */
final class Model {
    record Sort(boolean array, int width) {
        int bits() {
            return array ? 2 * width : width;
        }
    }

    record Arg(Entry node, boolean minus) {
    }

    static final class Entry {
        int id;
        String kind;
        Sort sort;
        List<Arg> args = new ArrayList<>();
        List<Integer> numbers = new ArrayList<>();
        boolean fixed;

        boolean isNode() {
            return !List.of("sort", "init", "next", "bad", "constraint").contains(kind);
        }
    }

    /** Thrown with the number of the word at fault. */
    private static final class Fault extends RuntimeException {
        private static final long serialVersionUID = 1;
        final int word;

        Fault(int word) {
            this.word = word;
        }
    }

    private final List<Entry> entries = new ArrayList<>();
    private final Map<Integer, Entry> inits = new HashMap<>();
    private final Map<Integer, Entry> nexts = new HashMap<>();
    private String typed = "";
    private int[] hand;
    private int[][] kept;
    private final Map<Integer, int[]> cache = new HashMap<>();
    private final Map<String, List<Entry>> lists = new HashMap<>();

    boolean type(int word, int n) {
        if (n < 1 || n > 4) {
            return false;
        }
        String more = "";
        for (int i = 0; i < n; i++) {
            int c = word & 0xFF;
            word >>= 8;
            if (c < 32 || c > 126) {
                return false;
            }
            more = (char) c + more;
        }
        if (typed.length() + n > 40) {
            return false;
        }
        typed += more;
        return true;
    }

    int lines() {
        return entries.size();
    }

    /** What line() would answer for this text. */
    int answerFor(String text) {
        try {
            Entry entry = parse(text);
            return entries.size() == 20 ? -100 : entry.id;
        } catch (Fault fault) {
            return -1 - fault.word;
        }
    }

    int line() {
        String text = typed;
        typed = "";
        int answer = answerFor(text);
        if (answer > 0) {
            Entry entry = parse(text);
            entries.add(entry);
            if (entry.kind.equals("init")) {
                inits.put(entry.args.get(0).node().id, entry);
            }
            if (entry.kind.equals("next")) {
                nexts.put(entry.args.get(0).node().id, entry);
            }
            hand = null;
            kept = null;
            cache.clear();
            lists.clear();
        }
        return answer;
    }

    private static void want(boolean right, int word) {
        if (!right) {
            throw new Fault(word);
        }
    }

    private static int number(List<String> words, int j) {
        want(j < words.size() && words.get(j).matches("0|[1-9][0-9]?"), j);
        return Integer.parseInt(words.get(j));
    }

    private Entry entryWith(int id) {
        for (Entry entry : entries) {
            if (entry.id == id) {
                return entry;
            }
        }
        return null;
    }

    private Sort sort(List<String> words, int j) {
        Entry entry = entryWith(number(words, j));
        want(entry != null && entry.kind.equals("sort"), j);
        return entry.sort;
    }

    private Arg node(List<String> words, int j) {
        want(j < words.size() && words.get(j).matches("-?(0|[1-9][0-9]?)"), j);
        String word = words.get(j);
        boolean minus = word.startsWith("-");
        Entry entry = entryWith(Integer.parseInt(minus ? word.substring(1) : word));
        want(entry != null && entry.isNode(), j);
        want(!minus || !entry.sort.array(), j);
        return new Arg(entry, minus);
    }

    private Entry add(Entry entry, List<String> words, int j, Sort sort) {
        Arg arg = node(words, j);
        want(sort == null || arg.node().sort.equals(sort), j);
        entry.args.add(arg);
        return arg.node();
    }

    private int bitsOf(String kind) {
        int bits = 0;
        for (Entry entry : entries) {
            bits += entry.kind.equals(kind) ? entry.sort.bits() : 0;
        }
        return bits;
    }

    private Entry parse(String text) {
        List<String> words = new ArrayList<>();
        for (String word : text.split(" ")) {
            if (!word.isEmpty()) {
                words.add(word);
            }
        }
        Entry entry = new Entry();
        entry.id = number(words, 0);
        int last = entries.isEmpty() ? 0 : entries.get(entries.size() - 1).id;
        want(entry.id > last, 0);
        want(words.size() > 1, 1);
        entry.kind = words.get(1);
        int due = entry.kind.equals("sort") ? parseSort(entry, words) : parseOther(entry, words);
        want(words.size() <= due, due);
        boolean free = entry.kind.equals("input") || entry.kind.equals("state");
        entry.fixed = !free && entry.args.stream().allMatch(arg -> arg.node().fixed);
        return entry;
    }

    private int parseSort(Entry entry, List<String> words) {
        want(words.size() > 2, 2);
        if (words.get(2).equals("bitvec")) {
            int width = number(words, 3);
            want(width >= 1 && width <= 3, 3);
            entry.sort = new Sort(false, width);
            return 4;
        }
        want(words.get(2).equals("array"), 2);
        want(sort(words, 3).equals(new Sort(false, 1)), 3);
        Sort element = sort(words, 4);
        want(!element.array(), 4);
        entry.sort = new Sort(true, element.width());
        return 5;
    }

    private static final Sort BIT = new Sort(false, 1);

    private int parseOther(Entry entry, List<String> words) {
        switch (entry.kind) {
            case "bad", "constraint" -> {
                add(entry, words, 2, BIT);
                return 3;
            }
            case "mul", "udiv", "urem" -> {
                long hard = entries.stream().filter(e -> List.of("mul", "udiv", "urem").contains(e.kind)).count();
                want(hard < 2, 1);
            }
            default -> want(List.of("input", "state", "constd", "not", "neg", "redor", "and", "or", "xor", "add",
                "sub", "sll", "srl", "eq", "ult", "slt", "concat", "slice", "uext", "sext", "ite", "read", "write",
                "init", "next").contains(entry.kind), 1);
        }
        Sort s = sort(words, 2);
        entry.sort = s;
        return parseBehindSort(entry, words, s);
    }

    private int parseBehindSort(Entry entry, List<String> words, Sort s) {
        switch (entry.kind) {
            case "input":
                want(!s.array() && bitsOf("input") + s.bits() <= 2, 2);
                return 3;
            case "state":
                want(bitsOf("state") + s.bits() <= 6, 2);
                return 3;
            case "constd":
                want(!s.array(), 2);
                entry.numbers.add(number(words, 3));
                want(entry.numbers.get(0) < Math.pow(2, s.width()), 3);
                return 4;
            case "not", "neg":
                want(!s.array(), 2);
                add(entry, words, 3, s);
                return 4;
            case "redor":
                want(s.equals(BIT), 2);
                want(!add(entry, words, 3, null).sort.array(), 3);
                return 4;
            case "eq", "ult", "slt": {
                want(s.equals(BIT), 2);
                Entry a = add(entry, words, 3, null);
                want(entry.kind.equals("eq") || !a.sort.array(), 3);
                add(entry, words, 4, a.sort);
                return 5;
            }
            case "concat": {
                want(!s.array(), 2);
                Entry a = add(entry, words, 3, null);
                want(!a.sort.array() && a.sort.width() < s.width(), 3);
                add(entry, words, 4, new Sort(false, s.width() - a.sort.width()));
                return 5;
            }
            case "slice": {
                want(!s.array(), 2);
                Entry a = add(entry, words, 3, null);
                want(!a.sort.array(), 3);
                int upper = number(words, 4);
                want(upper < a.sort.width(), 4);
                int lower = number(words, 5);
                want(upper - lower + 1 == s.width(), 5);
                entry.numbers.add(upper);
                entry.numbers.add(lower);
                return 6;
            }
            case "uext", "sext": {
                want(!s.array(), 2);
                Entry a = add(entry, words, 3, null);
                want(!a.sort.array(), 3);
                want(a.sort.width() + number(words, 4) == s.width(), 4);
                return 5;
            }
            case "ite":
                add(entry, words, 3, BIT);
                add(entry, words, 4, s);
                add(entry, words, 5, s);
                return 6;
            case "read":
                want(!s.array(), 2);
                add(entry, words, 3, new Sort(true, s.width()));
                add(entry, words, 4, BIT);
                return 5;
            case "write":
                want(s.array(), 2);
                add(entry, words, 3, s);
                add(entry, words, 4, BIT);
                add(entry, words, 5, new Sort(false, s.width()));
                return 6;
            case "init", "next": {
                Entry a = add(entry, words, 3, s);
                Map<Integer, Entry> given = entry.kind.equals("init") ? inits : nexts;
                want(!entry.args.get(0).minus() && a.kind.equals("state") && !given.containsKey(a.id), 3);
                Entry v = add(entry, words, 4, s);
                want(entry.kind.equals("next") || v.fixed, 4);
                return 5;
            }
            default:
                want(!s.array(), 2);
                add(entry, words, 3, s);
                add(entry, words, 4, s);
                return 5;
        }
    }

    // A run is told as one list of numbers a step: the states' values in the order of their lines,
    // then those of the inputs.

    private List<Entry> all(String kind) {
        return lists.computeIfAbsent(kind, k -> entries.stream().filter(entry -> entry.kind.equals(k)).toList());
    }

    private int[] values(int[] states, int[] inputs) {
        int key = 0;
        for (int s = 0; s < states.length; s++) {
            key = (key << all("state").get(s).sort.bits()) + states[s];
        }
        for (int i = 0; i < inputs.length; i++) {
            key = (key << all("input").get(i).sort.bits()) + inputs[i];
        }
        return cache.computeIfAbsent(key, k -> evaluate(states, inputs));
    }

    private int[] evaluate(int[] states, int[] inputs) {
        int[] values = new int[100];
        int s = 0;
        int i = 0;
        for (Entry entry : entries) {
            if (entry.kind.equals("state")) {
                values[entry.id] = states[s++];
            } else if (entry.kind.equals("input")) {
                values[entry.id] = inputs[i++];
            } else if (entry.isNode()) {
                values[entry.id] = apply(entry, values);
            }
        }
        return values;
    }

    private static int valueOf(Arg arg, int[] values) {
        int v = values[arg.node().id];
        return arg.minus() ? (1 << arg.node().sort.width()) - 1 - v : v;
    }

    private static int signed(int v, int w) {
        return v >= 1 << (w - 1) ? v - (1 << w) : v;
    }

    private static int apply(Entry e, int[] values) {
        int w = e.sort.width();
        int m = 1 << w;
        int a = e.args.size() > 0 ? valueOf(e.args.get(0), values) : 0;
        int b = e.args.size() > 1 ? valueOf(e.args.get(1), values) : 0;
        int c = e.args.size() > 2 ? valueOf(e.args.get(2), values) : 0;
        int wa = e.args.size() > 0 ? e.args.get(0).node().sort.width() : 0;
        return switch (e.kind) {
            case "constd" -> e.numbers.get(0);
            case "not" -> m - 1 - a;
            case "neg" -> (m - a) % m;
            case "redor" -> a != 0 ? 1 : 0;
            case "and" -> a & b;
            case "or" -> a | b;
            case "xor" -> a ^ b;
            case "add" -> (a + b) % m;
            case "sub" -> (a - b + m) % m;
            case "mul" -> a * b % m;
            case "udiv" -> b == 0 ? m - 1 : a / b;
            case "urem" -> b == 0 ? a : a % b;
            case "sll" -> (a << b) % m;
            case "srl" -> a >> b;
            case "eq" -> a == b ? 1 : 0;
            case "ult" -> a < b ? 1 : 0;
            case "slt" -> signed(a, wa) < signed(b, wa) ? 1 : 0;
            case "concat" -> a * (1 << e.args.get(1).node().sort.width()) + b;
            case "slice" -> (a >> e.numbers.get(1)) % m;
            case "uext" -> a;
            case "sext" -> (signed(a, wa) + m) % m;
            case "ite" -> a == 1 ? b : c;
            case "read" -> b == 0 ? a % m : a / m;
            case "write" -> b == 0 ? a / m * m + c : a % m + m * c;
            default -> throw new IllegalStateException(e.kind);
        };
    }

    private int[] after(int[] states, int[] inputs) {
        int[] values = values(states, inputs);
        int[] after = states.clone();
        List<Entry> kinds = all("state");
        for (int s = 0; s < after.length; s++) {
            Entry next = nexts.get(kinds.get(s).id);
            if (next != null) {
                after[s] = valueOf(next.args.get(1), values);
            }
        }
        return after;
    }

    private boolean isBad(int[] states, int[] inputs) {
        int[] values = values(states, inputs);
        return isBad(values);
    }

    private boolean isBad(int[] values) {
        for (Entry entry : all("bad")) {
            if (valueOf(entry.args.get(0), values) == 1) {
                return true;
            }
        }
        return false;
    }

    private boolean isAllowed(int[] states, int[] inputs) {
        int[] values = values(states, inputs);
        for (Entry entry : all("constraint")) {
            if (valueOf(entry.args.get(0), values) != 1) {
                return false;
            }
        }
        return true;
    }

    private int[] fromLowest(List<Entry> given, int bits, boolean onlyChosen) {
        int[] out = new int[given.size()];
        for (int i = 0; i < out.length; i++) {
            Entry init = onlyChosen ? inits.get(given.get(i).id) : null;
            if (init != null) {
                out[i] = valueOf(init.args.get(1), values(new int[given.size()], new int[all("input").size()]));
            } else {
                out[i] = bits & ((1 << given.get(i).sort.bits()) - 1);
                bits >>= given.get(i).sort.bits();
            }
        }
        return out;
    }

    /** Takes values from a text of bits, the first value's highest bit first. */
    private int[] fromText(List<Entry> given, StringBuilder bits, boolean onlyChosen) {
        int[] out = fromLowest(given, 0, onlyChosen);
        for (int i = 0; i < out.length; i++) {
            if (!onlyChosen || !inits.containsKey(given.get(i).id)) {
                int n = given.get(i).sort.bits();
                out[i] = Integer.parseInt(bits.substring(0, n), 2);
                bits.delete(0, n);
            }
        }
        return out;
    }

    void begin(int x) {
        hand = fromLowest(all("state"), x, true);
        handInputs = new int[all("input").size()];
    }

    private int[] handInputs;

    boolean feed(int y) {
        if (hand == null) {
            return false;
        }
        handInputs = fromLowest(all("input"), y, false);
        return true;
    }

    boolean step() {
        if (hand == null) {
            return false;
        }
        hand = after(hand, handInputs);
        handInputs = new int[handInputs.length];
        return true;
    }

    int value(int id) {
        Entry entry = entryWith(id);
        return hand == null || entry == null || !entry.isNode() ? -1 : values(hand, handInputs)[id];
    }

    int shown(int step, int id) {
        Entry entry = entryWith(id);
        boolean there = kept != null && step >= 0 && step < kept.length && entry != null && entry.isNode();
        return there ? kept[step][id] : -1;
    }

    private static String bitText(int number, int bits) {
        StringBuilder text = new StringBuilder();
        for (int j = bits - 1; j >= 0; j--) {
            text.append((number >> j) & 1);
        }
        return text.toString();
    }

    int find(int k) {
        if (k < 0 || k > 3) {
            return -2;
        }
        kept = null;
        int chosen = 0;
        for (Entry entry : all("state")) {
            chosen += inits.containsKey(entry.id) ? 0 : entry.sort.bits();
        }
        for (int d = 0; d <= k; d++) {
            int bits = chosen + (d + 1) * bitsOf("input");
            for (int n = 0; n < 1 << bits; n++) {
                int[][] run = runOf(bitText(n, bits), d, true);
                if (run != null) {
                    kept = run;
                    return d;
                }
            }
        }
        return -1;
    }

    /** The values of all nodes at each step; null if the bits tell no run, or one that is not bad at d. */
    private int[][] runOf(String text, int d, boolean onlyChosen) {
        StringBuilder bits = new StringBuilder(text);
        int[][] run = new int[d + 1][];
        List<Entry> inputLines = all("input");
        int[] states = fromText(all("state"), bits, onlyChosen);
        for (int t = 0; t <= d; t++) {
            int[] inputs = fromText(inputLines, bits, false);
            if (!isAllowed(states, inputs)) {
                return null;
            }
            if (t == d && !isBad(states, inputs)) {
                return null;
            }
            run[t] = values(states, inputs);
            states = after(states, inputs);
        }
        return run;
    }

    int prove(int k) {
        if (k < 0 || k > 2) {
            return -2;
        }
        if (find(k) >= 0) {
            return 2;
        }
        int bits = bitsOf("state") + (k + 2) * bitsOf("input");
        for (int n = 0; n < 1 << bits; n++) {
            int[][] run = runOf(bitText(n, bits), k + 1, false);
            if (run != null && isStretch(run)) {
                return 0;
            }
        }
        return 1;
    }

    private boolean isStretch(int[][] run) {
        for (int t = 0; t < run.length - 1; t++) {
            int[] values = run[t];
            if (isBad(values)) {
                return false;
            }
            for (int u = t + 1; u < run.length; u++) {
                int[] others = run[u];
                if (all("state").stream().allMatch(entry -> values[entry.id] == others[entry.id])) {
                    return false;
                }
            }
        }
        return true;
    }
}
