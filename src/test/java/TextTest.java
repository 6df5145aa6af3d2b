/** Promises 1 to 5: a new object, feed, end, text, fault. */
public final class TextTest {
    private static final Check CHECK = new Check("TextTest");

    public static void main(String[] args) {
        newObject();
        feed();
        end();
        taken();
        faults();
        faultStays();
        CHECK.close();
    }

    private static void due(String call, long got, long want) {
        CHECK.due(call, got, want);
    }

    private static void newObject() {
        ScopedPhrases x = new ScopedPhrases();
        int[] rules = {2, 1, 0, 2, 2, 1};
        for (int what = 0; what < rules.length; what++) {
            due("new: rule(" + what + ")", x.rule(what), rules[what]);
        }
        due("new: subject EVERY", x.phrase(0, 0), 0);
        due("new: subject MAN", x.phrase(0, 1), 0);
        due("new: object SOME", x.phrase(1, 0), 1);
        due("new: object DOG", x.phrase(1, 1), 1);
        due("new: subject is no host", x.phrase(0, 3), ScopedPhrases.NONE);
        due("new: object has no host", x.phrase(1, 2), ScopedPhrases.NONE);
        for (int what = 0; what < 4; what++) {
            due("new: told(" + what + ", 0, 0)", x.told(what, 0, 0), 0);
        }
        for (int k = 0; k < 4; k++) {
            due("new: lay on sheet " + k, x.lay(k, 0, 1), -11);
        }
        due("new: images", x.count(0), 0);
        due("new: tape", x.count(1), 0);
        due("new: sheet 0", x.count(2), ScopedPhrases.NONE);
        due("new: back(0)", x.back(0), ScopedPhrases.STATE);
        due("new: back(1)", x.back(1), ScopedPhrases.STATE);
        due("new: fault", x.fault(), 0);
    }

    private static void feed() {
        ScopedPhrases x = new ScopedPhrases();
        for (int c : new int[] {-1, 128, 256, Integer.MIN_VALUE, Integer.MAX_VALUE}) {
            due("feed(" + c + ")", x.feed(c), ScopedPhrases.BAD);
        }
        due("a refused byte is not on the tape", x.count(1), 0);
        due("feed(0)", x.feed(0), 1);
        due("feed(127)", x.feed(127), 2);
        for (int i = 3; i <= 200; i++) {
            due("the " + i + "th byte", x.feed(32), i);
        }
        due("the 201st byte", x.feed(32), ScopedPhrases.FULL);
        due("a bad byte on a full tape", x.feed(128), ScopedPhrases.BAD);
        due("a full tape", x.count(1), 200);
        due("the first byte is no token", x.text(), -10);
        due("feed behind text", x.feed(32), 1);
    }

    private static void end() {
        ScopedPhrases x = new ScopedPhrases();
        due("end(0) of nothing", x.end(0), 0);
        due("end(1) of nothing", x.end(1), ScopedPhrases.BAD);
        for (int i = 0; i < 5; i++) {
            x.feed("no;ab".charAt(i));
        }
        due("end(-1)", x.end(-1), ScopedPhrases.BAD);
        due("end(6)", x.end(6), ScopedPhrases.BAD);
        due("end(MIN)", x.end(Integer.MIN_VALUE), ScopedPhrases.BAD);
        due("refused, nothing changes", x.count(1), 5);
        due("end(5)", x.end(5), 5);
        due("end(2)", x.end(2), 5);
        due("two are left", x.count(1), 2);
        due("the first two are left: the end at 2", x.text(), -12);
    }

    private static void taken() {
        text("every man sees some dog;", 2, 0);
        text("   every   man sees some dog   ;   ", 2, 0);
        text("no dog likes one man that sees every dog;", 3, 0);
        text("no dog that likes one man that sees every dog that likes some dog sees no man;", -81, 3);
        text("no dog that likes one man that sees every dog sees no man;", 4, 0);
        text("no dog that likes one man sees no man that likes some dog;", 4, 0);
        text("no dog sees no man that likes some dog that sees one man;", 4, 0);
        StringBuilder long200 = new StringBuilder("one man likes one man ;");
        while (long200.length() < 200) {
            long200.insert(3, ' ');
        }
        text(long200.toString(), 2, 0);

        ScopedPhrases x = new ScopedPhrases();
        x.things(3);
        x.is(1, 2, 1);
        x.sheet(0, 1, 7);
        x.keep(1);
        due("told", Check.tell(x, "no dog that likes one man sees some man;"), 3);
        int[][] phrases = {{2, 1, -4, 1, 1, 0}, {3, 0, 0, -4, -4, 1}, {1, 0, -4, -4, -4, 0}};
        for (int p = 0; p < 3; p++) {
            for (int what = 0; what < 6; what++) {
                due("phrase(" + p + ", " + what + ")", x.phrase(p, what), phrases[p][what]);
            }
        }
        due("the object", x.rule(1), 2);
        due("the verb", x.rule(2), 0);
        due("the world stays", x.rule(5), 3);
        due("its facts stay", x.told(1, 2, 0), 1);
        due("the sheet stays", x.count(2), 7);
        due("the image stays", x.count(0), 1);
        due("the tape is empty", x.count(1), 0);
    }

    private static void faults() {
        text("", -10, 2);
        text("   ", -13, 2);
        text(".", -10, 1);
        text("every man sees some dog.", -33, 1);
        text("every man sees some dog", -33, 2);
        text("every man sees some dog  ", -35, 2);
        text("every man sees some dog;.", -34, 1);
        text("every man sees some dog; ;", -35, 2);
        text("every man sees some dog;every", -34, 2);
        text("every man sees some dog every", -34, 2);
        text("every man sees some dog likes", -34, 2);
        text("Every man sees some dog;", -10, 1);
        text("every\tman sees some dog;", -15, 1);
        text("everyman sees some dog;", -10, 2);
        text("every mans sees some dog;", -16, 2);
        text("every ma sees some dog;", -16, 2);
        text("every man see some dog;", -20, 2);
        text("every man seess some dog;", -20, 2);
        text("every man that some dog;", -25, 2);
        text("every man that sees dog;", -30, 2);
        text("every man that sees some dog;", -38, 2);
        text("every man that.", -24, 1);
        text("that man sees some dog;", -10, 2);
        text("every every man sees some dog;", -16, 2);
        text("every.man sees some dog;", -15, 1);
        text("dog.", -10, 2);
        text(";", -10, 2);
        text("every;", -15, 2);
        text("every man{", -19, 1);
        text("every man`", -19, 1);
        // five where one may stand, and one where none may
        String four = "no dog that likes one man that sees every dog sees no man ";
        text(four + "that sees", -77, 2);
        text(four + "that sees some", -78, 3);
        text(four + "that sees man", -78, 2);
        text(four + "some", -68, 2);
        text(four + "that sees ?", -78, 1);
    }

    private static void text(String text, int answer, int fault) {
        ScopedPhrases x = new ScopedPhrases();
        due("text of '" + text + "'", Check.tell(x, text), answer);
        due("fault of '" + text + "'", x.fault(), fault);
        due("the tape behind '" + text + "'", x.count(1), 0);
        if (answer < 0) {
            due("the sentence stays: phrases", x.rule(0), 2);
            due("the sentence stays: object", x.rule(1), 1);
            due("the sentence stays: subject", x.phrase(0, 0), 0);
            due("the sentence stays: no host", x.phrase(0, 3), ScopedPhrases.NONE);
        } else {
            due("phrases of '" + text + "'", x.rule(0), answer);
        }
    }

    private static void faultStays() {
        ScopedPhrases x = new ScopedPhrases();
        Check.tell(x, "?");
        due("fault 1", x.fault(), 1);
        x.feed('n');
        x.draw(1);
        x.keep(0);
        x.back(0);
        due("fault stays till the next text", x.fault(), 1);
        Check.tell(x, "one dog sees one dog;");
        due("fault 0 behind a text that is taken", x.fault(), 0);
    }
}
