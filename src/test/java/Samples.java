/** A small system, and behind it one good line of every kind, each told without its ID. */
final class Samples {
    static final String[] BASE = {
        "1 sort bitvec 1", "2 sort bitvec 2", "3 sort bitvec 3", "4 sort array 1 1", "5 state 4", "6 state 2",
        "7 input 1", "8 constd 2 2"
    };

    static final String[] LINES = {
        "sort bitvec 3", "sort array 1 2", "input 1", "state 2", "constd 2 3", "not 2 6", "neg 2 6", "redor 1 6",
        "and 2 6 8", "or 2 6 8", "xor 2 6 8", "add 2 6 8", "sub 2 6 8", "mul 2 6 8", "udiv 2 6 8", "urem 2 6 8",
        "sll 2 6 8", "srl 2 6 8", "eq 1 5 5", "ult 1 6 8", "slt 1 6 8", "concat 3 7 6", "slice 1 6 1 1",
        "uext 3 6 1", "sext 3 6 1", "ite 4 7 5 5", "read 1 5 7", "write 4 5 7 7", "init 2 6 8", "next 2 6 8",
        "bad 7", "constraint 7"
    };

    private Samples() {
    }

    /** The base, and lines behind it. */
    static String[] baseAnd(String... more) {
        return both(BASE, more);
    }

    static String[] both(String[] first, String... second) {
        String[] all = new String[first.length + second.length];
        System.arraycopy(first, 0, all, 0, first.length);
        System.arraycopy(second, 0, all, first.length, second.length);
        return all;
    }

    /** The base, filled up to 20 lines by sorts that nothing uses: the last ID is 20. */
    static String[] full() {
        return filled(BASE, 9);
    }

    /** The lines, filled up to 20 by sorts with IDs from that one on. */
    static String[] filled(String[] lines, int from) {
        String[] more = new String[20 - lines.length];
        for (int i = 0; i < more.length; i++) {
            more[i] = (from + i) + " sort bitvec 1";
        }
        return both(lines, more);
    }
}
