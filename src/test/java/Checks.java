/** What the tests share: typing a text, comparing an answer, counting the wrong ones. */
final class Checks {
    private int wrong;
    private int done;
    private int sentences;
    private int doneBefore;
    private String sentence = "";

    void due(String call, long got, long want) {
        done++;
        if (got != want) {
            wrong++;
            System.out.println(sentence + call + " answered " + got + ", due is " + want);
        }
    }

    void due(String call, boolean got, boolean want) {
        due(call, got ? 1 : 0, want ? 1 : 0);
    }

    /** From here on the answers are those that this sentence of the document asks for. */
    void sentence(String words) {
        endSentence();
        sentences++;
        sentence = "\"" + words + "\": ";
    }

    /** A sentence for which nothing was asked would pass unseen. */
    private void endSentence() {
        if (sentences > 0 && done == doneBefore) {
            due("a test of this sentence", 0, 1);
        }
        doneBefore = done;
    }

    boolean anyWrong() {
        return wrong > 0;
    }

    void end() {
        endSentence();
        System.out.println((sentences > 0 ? sentences + " sentences, " : "") + done + " answers, " + wrong
            + " not as due");
        if (wrong > 0) {
            System.exit(1);
        }
    }

    /** Types the text, four characters a call and the rest in one. */
    static void type(WordChecker x, String text) {
        for (int i = 0; i < text.length(); i += 4) {
            String part = text.substring(i, Math.min(i + 4, text.length()));
            x.type(pack(part), part.length());
        }
    }

    static int pack(String part) {
        int word = 0;
        for (int i = 0; i < part.length(); i++) {
            word = word << 8 | part.charAt(i);
        }
        return word;
    }

    static int take(WordChecker x, String text) {
        type(x, text);
        return x.line();
    }

    /** A new object with these lines; each of them has to be taken. */
    WordChecker with(String... lines) {
        WordChecker x = new WordChecker();
        more(x, lines);
        return x;
    }

    void more(WordChecker x, String... lines) {
        for (String text : lines) {
            due("line \"" + text + "\"", take(x, text), Integer.parseInt(text.trim().split(" ")[0]));
        }
    }

    /** The line must be answered so, and must leave the number of lines as it was if it is not taken. */
    void line(WordChecker x, String text, int want) {
        int before = x.lines();
        due("line \"" + text + "\"", take(x, text), want);
        due("lines() after \"" + text + "\"", x.lines(), want > 0 ? before + 1 : before);
    }

    /** The answer for the line behind these lines, on an object of its own. */
    void behind(String[] lines, String text, int want) {
        line(with(lines), text, want);
    }
}
