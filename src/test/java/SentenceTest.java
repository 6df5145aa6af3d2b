/** Promises 6 to 9: rule, phrase, becomes, draw. */
public final class SentenceTest {
    private static final Check CHECK = new Check("SentenceTest");
    private static final int[] WRONG = {-1, 6, 7, Integer.MIN_VALUE, Integer.MAX_VALUE};

    public static void main(String[] args) {
        rule();
        phrase();
        becomes();
        draw();
        CHECK.close();
    }

    private static void due(String call, long got, long want) {
        CHECK.due(call, got, want);
    }

    private static void rule() {
        ScopedPhrases x = new ScopedPhrases();
        for (int what : WRONG) {
            due("rule(" + what + ")", x.rule(what), ScopedPhrases.BAD);
        }
        Check.tell(x, "some man likes some dog that sees some man;");
        int[] due = {3, 1, 1, 5, 1, 1};
        for (int what = 0; what < due.length; what++) {
            due("rule(" + what + ")", x.rule(what), due[what]);
        }
        Check.tell(x, "one man that sees one man sees one man that sees one man;");
        due("two hosts: object", x.rule(1), 2);
        due("two hosts: verb", x.rule(2), 0);
        x.things(4);
        due("things", x.rule(5), 4);
    }

    private static void phrase() {
        ScopedPhrases x = new ScopedPhrases();
        Check.tell(x, "every dog likes one man that sees no dog that likes some man;");
        int[][] phrases = {
            {0, 1, -4, -4, -4, 0}, {3, 0, -4, 0, 2, 0}, {2, 1, 1, 1, 3, 1}, {1, 0, 2, -4, -4, 2}};
        for (int p = 0; p < 4; p++) {
            for (int what = 0; what < 6; what++) {
                due("phrase(" + p + ", " + what + ")", x.phrase(p, what), phrases[p][what]);
            }
        }
        for (int wrong : WRONG) {
            due("phrase(0, " + wrong + ")", x.phrase(0, wrong), ScopedPhrases.BAD);
            due("phrase(" + wrong + ", 0)", x.phrase(wrong, 0), ScopedPhrases.BAD);
        }
        due("phrase(4, 2)", x.phrase(4, 2), ScopedPhrases.BAD);
        Check.tell(x, "one man sees one man;");
        due("phrase(2, 0) of two", x.phrase(2, 0), ScopedPhrases.BAD);
        due("a host of the sentence before is none now", x.phrase(1, 3), ScopedPhrases.NONE);
    }

    private static void becomes() {
        ScopedPhrases x = new ScopedPhrases();
        for (int v = 3; v >= 0; v--) {
            due("quantifier was", x.becomes(1, 0, v), v == 3 ? 1 : v + 1);
            due("quantifier is", x.phrase(1, 0), v);
        }
        due("noun was", x.becomes(1, 1, 0), 1);
        due("noun is", x.phrase(1, 1), 0);
        due("noun was", x.becomes(1, 1, 1), 0);
        due("verb was", x.becomes(-7, 2, 1), 0);
        due("verb was", x.becomes(Integer.MAX_VALUE, 2, 1), 1);
        due("verb is", x.rule(2), 1);
        int[][] wrong = {
            {0, 0, 4}, {0, 0, -1}, {0, 1, 2}, {0, 1, -1}, {0, 2, 2}, {0, 2, -1}, {0, 3, 0}, {0, -1, 0},
            {2, 0, 0}, {-1, 0, 0}, {2, 1, 0}, {-1, 1, 0}, {Integer.MIN_VALUE, 0, 0}, {0, Integer.MAX_VALUE, 0}};
        for (int[] w : wrong) {
            due("becomes(" + w[0] + ", " + w[1] + ", " + w[2] + ")", x.becomes(w[0], w[1], w[2]), ScopedPhrases.BAD);
        }
        due("the first phrase stays", x.phrase(0, 0), 0);
        due("the first phrase stays", x.phrase(0, 1), 0);
        // what follows from the sentence follows the change
        due("verb back", x.becomes(0, 2, 0), 1);
        due("every man sees every dog", x.rule(4), 1);
        due("quantifier was", x.becomes(1, 0, 1), 0);
        due("every man sees some dog", x.rule(4), 2);
        due("entails", x.entails(0, 1), 0);
        due("quantifier was", x.becomes(0, 0, 1), 0);
        due("some man sees some dog entails", x.entails(0, 1), 1);
        // the change of a noun and of the verb counts too: all dogs see, no men are there
        x.things(1);
        x.is(1, 0, 1);
        x.does(0, 0, 0, 1);
        due("some man sees some dog", x.holds(0), 0);
        int some = x.many(0);
        due("noun was", x.becomes(0, 1, 1), 0);
        due("some dog sees some dog", x.holds(0), 1);
        CHECK.that("many follows the noun", x.many(0) != some);
        due("verb was", x.becomes(0, 2, 1), 0);
        due("some dog likes some dog", x.holds(0), 0);
    }

    /** The draws are worked out here anew, with long arithmetic and a text, and told by that text. */
    private static void draw() {
        int[] seeds = {0, 1, 2, 7, -1, 123456, Integer.MIN_VALUE, Integer.MAX_VALUE};
        boolean[] seen = new boolean[5];
        for (int i = 0; i < 400; i++) {
            int seed = i < seeds.length ? seeds[i] : i * 7919 - 1000000;
            ScopedPhrases x = new ScopedPhrases();
            int drawn = x.draw(seed);
            ScopedPhrases y = new ScopedPhrases();
            due("draw(" + seed + ")", drawn, Check.tell(y, new Drawn(seed).text()));
            for (int what = 0; what < 5; what++) {
                due("draw(" + seed + "), rule(" + what + ")", x.rule(what), y.rule(what));
            }
            for (int p = 0; p < drawn; p++) {
                for (int what = 0; what < 6; what++) {
                    due("draw(" + seed + "), phrase(" + p + ", " + what + ")", x.phrase(p, what), y.phrase(p, what));
                }
            }
            seen[drawn] = true;
        }
        CHECK.that("2, 3 and 4 phrases are drawn", seen[2] && seen[3] && seen[4]);
        ScopedPhrases x = new ScopedPhrases();
        x.things(3);
        Check.tell(x, "?");
        due("draw(7)", x.draw(7), 4);
        due("the world stays", x.rule(5), 3);
        due("the fault stays", x.fault(), 1);
    }

    private static final class Drawn {
        private long seed;
        private int drawn = 0;

        Drawn(int seed) {
            this.seed = seed;
        }

        private int got(int modulo) {
            seed = seed * 1103515245L + 12345L;
            return (int) ((seed >> 16) & 32767) % modulo;
        }

        String text() {
            String subject = phrase(2);
            String verb = got(2) == 0 ? " sees " : " likes ";
            return subject + verb + phrase(3) + ";";
        }

        private String phrase(int most) {
            drawn++;
            String q = new String[] {"every ", "some ", "no ", "one "}[got(4)];
            String text = q + (got(2) == 0 ? "man" : "dog");
            boolean more = got(2) == 0;
            if (more && drawn <= most) {
                String verb = got(2) == 0 ? " that sees " : " that likes ";
                text += verb + phrase(most);
            }
            return text;
        }
    }
}
