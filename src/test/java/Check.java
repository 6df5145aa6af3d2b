/** Counts the answers of one test that are not as due. */
final class Check {
    private final String name;
    private int asked = 0;
    private int wrong = 0;

    Check(String name) {
        this.name = name;
    }

    void due(String call, long got, long want) {
        asked++;
        if (got != want) {
            wrong++;
            if (wrong <= 50) {
                System.out.println(name + ": " + call + " answered " + got + ", due is " + want);
            }
        }
    }

    void that(String what, boolean so) {
        due(what, so ? 1 : 0, 1);
    }

    /** Ends the program with exit code 1 if an answer was wrong. */
    void close() {
        System.out.println(name + ": " + asked + " answers asked, " + wrong + " wrong");
        if (wrong != 0 || asked == 0) {
            System.exit(1);
        }
    }

    /** Feeds a text to an empty tape and has it told. */
    static int tell(ScopedPhrases x, String text) {
        x.end(0);
        for (int i = 0; i < text.length(); i++) {
            x.feed(text.charAt(i));
        }
        return x.text();
    }
}
