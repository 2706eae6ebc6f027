/** What the tests share: loading texts, reading answers, and counting those that are wrong. */
final class Bench {
    private final String name;
    private int checks;
    private int wrong;
    private String sentence = "";
    private int checksBefore;

    Bench(String name) {
        this.name = name;
    }

    /**
     * The checks from here on are of that sentence of ../shared/DOC.md, in its own words; a sentence
     * that no check follows is wrong too.
     */
    void sentence(String where, String words) {
        endSentence();
        sentence = " [" + where + ": " + words + "]";
    }

    private void endSentence() {
        if (!sentence.isEmpty() && checks == checksBefore) {
            wrong++;
            System.out.println(name + sentence + " has no check");
        }
        checksBefore = checks;
    }

    void due(String call, long got, long want) {
        due(call, Long.toString(got), Long.toString(want));
    }

    void due(String call, boolean got, boolean want) {
        due(call, Boolean.toString(got), Boolean.toString(want));
    }

    void due(String call, String got, String want) {
        checks++;
        if (!got.equals(want)) {
            wrong++;
            System.out.println(name + sentence + ": " + call + " answered " + got + ", due is " + want);
        }
    }

    /** Ends the program, with exit code 1 if an answer was wrong. */
    void end() {
        endSentence();
        System.out.println(name + ": " + checks + " checks, " + wrong + " wrong");
        System.exit(wrong == 0 && checks > 0 ? 0 : 1);
    }

    static int feed(TallySlate x, String text) {
        int there = 0;
        for (int at = 0; at < text.length(); at += 20) {
            int[] five = new int[5];
            for (int i = 0; i < 20; i++) {
                int c = at + i < text.length() ? text.charAt(at + i) : ' ';
                five[i / 4] = five[i / 4] << 8 | c;
            }
            there = x.feed(five[0], five[1], five[2], five[3], five[4]);
        }
        return there;
    }

    static int load(TallySlate x, String text) {
        feed(x, text);
        return x.load(text.length());
    }

    static TallySlate loaded(String text) {
        TallySlate x = new TallySlate();
        load(x, text);
        return x;
    }

    /** All that OUT has kept. */
    static String kept(TallySlate x) {
        StringBuilder s = new StringBuilder();
        for (int k = 0; x.out(k) != TallySlate.NONE; k++) {
            s.append((char) x.out(k));
        }
        return s.toString();
    }

    static String form(TallySlate x, int shelf) {
        return x.show(shelf) == TallySlate.NONE ? "bare" : kept(x);
    }

    /** What can be asked of an object without changing it, but for the bytes that OUT has kept. */
    static String state(TallySlate x) {
        StringBuilder s = new StringBuilder();
        s.append(x.fault(0)).append(' ').append(x.fault(1)).append(" | ");
        for (int f = 0; f < 3; f++) {
            s.append(x.function(f, 0)).append(' ').append(x.function(f, 1)).append(' ').append(x.function(f, 2)).append(' ');
        }
        return s.append("| ").append(troubles(x)).append(" | ").append(x.outs()).append(" | ").append(x.sum()).toString();
    }

    static String troubles(TallySlate x) {
        StringBuilder s = new StringBuilder();
        for (int what = 0; what < 7; what++) {
            s.append(what == 0 ? "" : " ").append(x.trouble(what));
        }
        return s.toString();
    }

    /** The text's only ^ is taken out: it stands ahead of the place that is meant. */
    static String plain(String marked) {
        return marked.replace("^", "");
    }

    /** A text with fault so at the ^; 0 means that it has none. */
    void fault(String marked, int kind) {
        TallySlate x = new TallySlate();
        int answer = load(x, plain(marked));
        due("load of " + marked, answer == TallySlate.NONE, kind != 0);
        due("fault(0) of " + marked, x.fault(0), kind);
        due("fault(1) of " + marked, x.fault(1), kind == 0 ? TallySlate.NONE : marked.indexOf('^'));
    }

    /** A text's first function runs into that trouble at the ^. */
    void trouble(String marked, int kind) {
        trouble(marked, kind, 20000);
    }

    /** With so much fuel, a text's first function runs into that trouble at the ^. */
    void trouble(String marked, int kind, int fuel) {
        TallySlate x = loaded(plain(marked));
        due("run of " + marked, x.run(0, 0, fuel), kind);
        due("trouble(0) of " + marked, x.trouble(0), kind);
        due("trouble(1) of " + marked, x.trouble(1), marked.indexOf('^'));
        if (kind != 9) {
            due("trouble(2) of " + marked, x.trouble(2), 0);
        }
    }

    /** A text's first function gives a thing of that form. */
    void gives(String text, String form) {
        TallySlate x = loaded(text);
        int answer = x.run(0, 7, 20000);
        due(text, answer == 0 ? form(x, 7) : "run: " + answer, form);
    }

    /** An E has that form. */
    void worth(String expression, String form) {
        gives("fn main() { return " + expression + "; }", form);
    }

    /** An E runs into that trouble at the ^. */
    void fails(String expression, int kind) {
        trouble("fn main() { return " + expression + "; }", kind);
    }

    /** What trouble(0) to trouble(6) answer behind a text's first function. */
    void tells(String text, int fuel, String troubles) {
        TallySlate x = loaded(text);
        x.run(0, TallySlate.NONE, fuel);
        due("trouble() of " + text, troubles(x), troubles);
    }

    /** How many STEPS a text's first function has, and how many are MADE by it. */
    void costs(String text, int steps, int made) {
        TallySlate x = loaded(text);
        x.run(0, TallySlate.NONE, 20000);
        due("STEPS of " + text, x.trouble(3), steps);
        due("MADE of " + text, x.trouble(4), made);
    }
}
