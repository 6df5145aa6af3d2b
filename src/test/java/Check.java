/** Counts the answers of one test that are not as due. */
final class Check {
    private final String name;
    private int asked = 0;
    private int wrong = 0;
    private String sentence = "";
    private int askedBefore = 0;
    private int sentences = 0;

    Check(String name) {
        this.name = name;
    }

    /** The next answers are asked for these words of the document; those before must have had an answer. */
    void of(String words) {
        leaveSentence();
        sentence = "[" + words + "] ";
        sentences++;
    }

    private void leaveSentence() {
        if (sentences > 0 && asked == askedBefore) {
            due("no answer was asked", 0, 1);
        }
        askedBefore = asked;
    }

    void due(String call, long got, long want) {
        asked++;
        if (got != want) {
            wrong++;
            if (wrong <= 50) {
                System.out.println(name + ": " + sentence + call + " answered " + got + ", due is " + want);
            }
        }
    }

    void same(String call, String got, String want) {
        asked++;
        if (!got.equals(want)) {
            wrong++;
            if (wrong <= 50) {
                System.out.println(name + ": " + sentence + call + " answered '" + got + "', due is '" + want + "'");
            }
        }
    }

    void that(String what, boolean so) {
        due(what, so ? 1 : 0, 1);
    }

    /** Ends the program with exit code 1 if an answer was wrong. */
    void close() {
        leaveSentence();
        String of = sentences == 0 ? "" : " of " + sentences + " sentences";
        System.out.println(name + ": " + asked + " answers asked" + of + ", " + wrong + " wrong");
        if (wrong != 0 || asked == 0) {
            System.exit(1);
        }
    }

    static void feed(ScopedPhrases x, String text) {
        for (int i = 0; i < text.length(); i++) {
            x.feed(text.charAt(i));
        }
    }

    /** Feeds a text to an empty tape and has it told. */
    static int tell(ScopedPhrases x, String text) {
        x.end(0);
        feed(x, text);
        return x.text();
    }

    /** The SENTENCE of an object, as the text that tells it. */
    static String sentence(ScopedPhrases x) {
        String verb = x.rule(2) == 0 ? " sees " : " likes ";
        return phrase(x, 0) + verb + phrase(x, x.rule(1)) + ";";
    }

    private static String phrase(ScopedPhrases x, int p) {
        String text = new String[] {"every ", "some ", "no ", "one "}[x.phrase(p, 0)];
        text += x.phrase(p, 1) == 0 ? "man" : "dog";
        int guest = x.phrase(p, 4);
        if (guest == ScopedPhrases.NONE) {
            return text;
        }
        return text + (x.phrase(p, 3) == 0 ? " that sees " : " that likes ") + phrase(x, guest);
    }

    /** THE WORLD's tables in the order of SMALL WORLDS, as many figures as there are bits. */
    static String tables(ScopedPhrases x) {
        StringBuilder text = new StringBuilder();
        int n = x.rule(5);
        for (int what = 0; what < 4; what++) {
            for (int t = 0; t < n; t++) {
                for (int u = 0; u < (what < 2 ? 1 : n); u++) {
                    text.append(x.told(what, t, u));
                }
            }
        }
        return text.toString();
    }
}
