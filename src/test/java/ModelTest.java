import java.util.Map;
import java.util.TreeMap;

/** Random calls, answered by the program and by the model: the answers must be the same. */
public final class ModelTest {
    private static final String[] KINDS = {
        "sort", "input", "state", "constd", "not", "neg", "redor", "and", "or", "xor", "add", "sub", "mul", "udiv",
        "urem", "sll", "srl", "eq", "ult", "slt", "concat", "slice", "uext", "sext", "ite", "read", "write", "init",
        "next", "bad", "constraint"
    };
    private static final int[] LENGTHS = {
        2, 1, 1, 2, 2, 2, 2, 3, 3, 3, 3, 3, 3, 3, 3, 3, 3, 3, 3, 3, 3, 4, 3, 3, 4, 3, 4, 3, 3, 1, 1
    };

    private final Checks checks = new Checks();
    private final Map<String, Integer> seen = new TreeMap<>();
    private long seed = 20261115;
    private WordChecker program;
    private Model model;
    private int lastId;
    /** The calls made to the present object: the document promises nothing behind the 512th. */
    private int calls;
    private StringBuilder log;

    private int random(int below) {
        seed = seed * 6364136223846793005L + 1442695040888963407L;
        return (int) ((seed >>> 33) % below);
    }

    private void same(String call, int got, int want) {
        log.append(call).append(" = ").append(want).append('\n');
        calls++;
        checks.due(call, got, want);
        if (got != want && checks.anyWrong()) {
            System.out.println("after:\n" + log);
            System.exit(1);
        }
    }

    private void same(String call, boolean got, boolean want) {
        same(call, got ? 1 : 0, want ? 1 : 0);
    }

    private void count(String what) {
        seen.merge(what, 1, Integer::sum);
    }

    private void typeBoth(String text) {
        for (int i = 0; i < text.length(); ) {
            int n = Math.min(1 + random(4), text.length() - i);
            int word = Checks.pack(text.substring(i, i + n)) | (n < 4 ? random(1 << 7) << (8 * n) : 0);
            same("type(" + word + ", " + n + ")", program.type(word, n), model.type(word, n));
            i += n;
        }
    }

    private void lineBoth(String text) {
        typeBoth(text);
        int want = model.line();
        same("line() of \"" + text + "\"", program.line(), want);
        if (want > 0) {
            lastId = want;
            count("taken " + text.trim().split(" +")[1]);
        } else {
            count("line " + want);
        }
    }

    private String nodeWord() {
        return (random(4) == 0 ? "-" : "") + (1 + random(lastId + 1));
    }

    private String randomLine(int which) {
        StringBuilder text = new StringBuilder();
        text.append(lastId + 1 + (random(20) == 0 ? 1 : 0)).append(' ').append(KINDS[which]);
        if (which == 0) {
            text.append(random(2) == 0
                ? " bitvec " + (1 + random(3)) : " array " + (1 + random(4)) + " " + (1 + random(4)));
            return text.toString();
        }
        for (int j = 0; j < LENGTHS[which]; j++) {
            boolean number = (which == 3 && j == 1) || (which >= 21 && which <= 23 && j >= 2);
            boolean sort = j == 0 && which < 29;
            text.append(' ').append(sort ? "" + (1 + random(3)) : number ? "" + random(4) : nodeWord());
        }
        return text.toString();
    }

    /** A line of that kind that is taken, if one is met soon; else any. */
    private String goodLine(int which) {
        String text = randomLine(which);
        for (int tries = 0; tries < 400 && model.answerFor(text) <= 0; tries++) {
            text = randomLine(which);
        }
        return text;
    }

    private String spoilt(String text) {
        String[] words = text.split(" ");
        int j = random(words.length);
        String[] others = {"", "0", "01", "-1", "--2", "- 3", "100", "foo", "Sort", "7x", "-", "99", "add",
            words[j] + " 3"};
        words[j] = others[random(others.length)];
        if (random(4) == 0) {
            return text + " 1";
        }
        String spoilt = String.join(random(3) == 0 ? "  " : " ", words);
        return spoilt.length() > 40 ? spoilt.substring(0, 40) : spoilt;
    }

    private void some(int least, int most, int firstKind, int lastKind) {
        int n = least + random(most - least + 1);
        for (int j = 0; j < n; j++) {
            String text = goodLine(firstKind + random(lastKind - firstKind + 1));
            lineBoth(random(8) == 0 ? spoilt(text) : text);
            if (random(20) == 0) {
                ask();
            }
        }
    }

    private void writeSorts() {
        lineBoth("1 sort bitvec 1");
        lineBoth("2 sort bitvec " + (2 + random(2)));
        lineBoth(random(2) == 0 ? "3 sort array 1 " + (1 + random(2)) : "3 sort bitvec " + (1 + random(3)));
    }

    private void writeAnySystem() {
        writeSorts();
        some(0, 2, 1, 1);
        some(1, 3, 2, 2);
        some(0, 2, 3, 3);
        some(3, 7, 4, 26);
        some(0, 3, 27, 27);
        some(0, 3, 28, 28);
        some(0, 2, 29, 29);
        some(0, 1, 30, 30);
        some(3, 10, 0, KINDS.length - 1);
    }

    /** Most states have init and next here: else what is bad is mostly so at step 0. */
    private void writeSystemThatMoves() {
        writeSorts();
        lineBoth("4 constd 1 " + random(2));
        lineBoth("5 constd 2 " + random(3));
        lineBoth("6 state 2");
        lineBoth("7 state " + (1 + random(3)));
        lineBoth("8 init 2 6 " + (random(3) == 0 ? "-5" : "5"));
        some(0, 1, 27, 27);
        some(0, 2, 1, 1);
        some(3, 6, 4, 26);
        some(2, 2, 28, 28);
        lineBoth((lastId + 1) + " eq 1 6 " + (random(3) == 0 ? "7" : "-5"));
        if (random(3) == 0) {
            some(1, 1, 30, 30);
        }
        lineBoth((lastId + 1) + " bad " + lastId);
    }

    /** Counts on by a constant, by an input, or not in each step, so that what is bad comes late. */
    private void writeCounter() {
        lineBoth("1 sort bitvec 1");
        lineBoth("2 sort bitvec " + (2 + random(2)));
        lineBoth("3 sort bitvec " + (1 + random(2)));
        lineBoth("4 state 2");
        lineBoth("5 constd 2 " + random(2));
        lineBoth("6 constd 2 " + (1 + random(3)));
        lineBoth("7 input " + (random(2) == 0 ? 1 : 3));
        lastId = 7;
        some(1, 3, 4, 24);
        lineBoth("30 " + (random(2) == 0 ? "add" : "sub") + " 2 4 " + (random(2) == 0 ? "5" : "-5"));
        lineBoth("31 ite 2 " + (random(2) == 0 ? "7" : "" + lastId) + " 30 4");
        lineBoth("32 next 2 4 " + (random(2) == 0 && model.answerFor("33 not 2 31") > 0 ? "31" : "30"));
        lineBoth("33 " + (random(2) == 0 ? "eq" : "ult") + " 1 " + (random(2) == 0 ? "6 4" : "4 -6"));
        lineBoth("34 bad " + (random(5) == 0 ? "-33" : "33"));
        if (random(2) == 0) {
            lineBoth("35 init 2 4 " + (random(2) == 0 ? "5" : "6"));
        }
        some(0, 1, 1, 2);
        some(0, 1, 30, 30);
    }

    private void writeArray() {
        lineBoth("1 sort bitvec 1");
        lineBoth("2 sort bitvec " + (1 + random(3)));
        lineBoth("3 sort array 1 2");
        lineBoth("4 state 3");
        lineBoth("5 input 1");
        lineBoth("6 read 2 4 " + (random(2) == 0 ? "5" : "-5"));
        lineBoth("7 constd 2 1");
        lineBoth("8 add 2 6 7");
        lineBoth("9 write 3 4 " + (random(2) == 0 ? "5" : "-5") + " " + (random(2) == 0 ? "8" : "-6"));
        some(0, 4, 4, 26);
        lineBoth((lastId + 1) + " next 3 4 " + (random(4) == 0 ? 4 : 9));
        lineBoth((lastId + 1) + " eq 1 " + (random(2) == 0 ? "4 9" : "6 8"));
        lineBoth((lastId + 1) + " bad " + lastId);
        some(0, 1, 30, 30);
    }

    private void beginBoth(int x) {
        program.begin(x);
        model.begin(x);
        calls++;
        log.append("begin(").append(x).append(")\n");
    }

    private int findBoth(int k) {
        int found = model.find(k);
        same("find(" + k + ")", program.find(k), found);
        count("find " + found);
        return found;
    }

    private void proveBoth(int k) {
        int proved = model.prove(k);
        same("prove(" + k + ")", program.prove(k), proved);
        count("prove " + proved);
    }

    private void ask() {
        int k = random(5) - (random(6) == 0 ? 1 : 0);
        switch (random(9)) {
            case 0 -> beginBoth(random(256) - 20);
            case 1 -> {
                int y = random(32) - 4;
                same("feed(" + y + ")", program.feed(y), model.feed(y));
            }
            case 2 -> same("step()", program.step(), model.step());
            case 3 -> findBoth(k);
            case 4 -> proveBoth(k);
            case 5 -> same("lines()", program.lines(), model.lines());
            case 6 -> {
                int n = random(7) - 1;
                int word = (random(1 << 16) << 16) | random(1 << 16);
                same("type(" + word + ", " + n + ")", program.type(word, n), model.type(word, n));
                same("line()", program.line(), model.line());
            }
            default -> look(4, 3);
        }
    }

    /** Looks at some nodes, now and at steps up to one behind the last. */
    private void look(int times, int last) {
        for (int j = 0; j < times; j++) {
            int id = random(lastId + 3) - 1;
            int t = random(last + 3) - 1;
            same("value(" + id + ")", program.value(id), model.value(id));
            same("shown(" + t + ", " + id + ")", program.shown(t, id), model.shown(t, id));
        }
    }

    private void oneObject() {
        program = new WordChecker();
        model = new Model();
        lastId = 0;
        calls = 0;
        log = new StringBuilder();
        switch (random(4)) {
            case 0 -> writeAnySystem();
            case 1 -> writeSystemThatMoves();
            case 2 -> writeCounter();
            default -> writeArray();
        }
        for (int k = 0; k <= 3 && calls < 400; k++) {
            int found = findBoth(k);
            look(6, Math.max(found, 0));
            proveBoth(k);
        }
        beginBoth(-1);
        while (calls < 500) {
            ask();
        }
        checks.due("calls are at most 512: " + calls, calls <= 512, true);
    }

    public static void main(String[] args) {
        ModelTest test = new ModelTest();
        int objects = args.length > 0 ? Integer.parseInt(args[0]) : 1500;
        for (int n = 0; n < objects; n++) {
            test.oneObject();
        }
        test.wantAllMet();
        test.checks.end();
    }

    /** A comparison that never meets a kind of line or an answer would say nothing of it. */
    private void wantAllMet() {
        for (String kind : KINDS) {
            checks.due("lines with " + kind + " were met", seen.getOrDefault("taken " + kind, 0) > 5, true);
        }
        String[] answers = {
            "find -2", "find -1", "find 0", "find 1", "find 2", "find 3", "prove -2", "prove 0", "prove 1", "prove 2",
            "line -1", "line -2", "line -3", "line -4", "line -5", "line -6", "line -7", "line -100"
        };
        for (String answer : answers) {
            checks.due(answer + " was met", seen.getOrDefault(answer, 0) > 5, true);
        }
        System.out.println(seen);
    }
}
