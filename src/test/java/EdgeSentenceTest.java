/** Boundary cases of the sentence: promises 6 to 9, each sentence of the document with a test of its own. */
public final class EdgeSentenceTest {
    private static final Check CHECK = new Check("EdgeSentenceTest");
    private static final int MIN = Integer.MIN_VALUE, MAX = Integer.MAX_VALUE;
    private static final int BAD = ScopedPhrases.BAD, NONE = ScopedPhrases.NONE;
    private static final String[] STRUCTURES = {
        "no man sees one dog;", "no man that likes some dog sees one dog;", "no man sees one dog that sees some man;",
        "no man that likes some dog that likes some man sees one dog;",
        "no man that likes some dog sees one dog that sees some man;",
        "no man sees one dog that sees some man that likes some dog;"};
    private static final int[] PHRASES = {2, 3, 3, 4, 4, 4};
    private static final int[] OBJECTS = {1, 2, 1, 3, 2, 1};
    private static final int[] READINGS = {2, 5, 5, 14, 14, 14};

    public static void main(String[] args) {
        ruleOfNoSuch();
        ruleLeastAndMost();
        ruleUnlikeLeastAndMost();
        ruleThings();
        phraseOfNoSuch();
        phraseWhatOfNoSuch();
        phraseWithoutHost();
        phraseThatIsNoHost();
        hostsAbove();
        becomesOfNoSuchPhrase();
        becomesWhatOfNoSuch();
        becomesTooSmallOrLarge();
        becomesLeastAndMost();
        becomesTheSame();
        verbAsksNoPhrase();
        becomesIsTheSentenceAlone();
        drawSeeds();
        drawWrapsAround();
        drawAtMostTwo();
        drawAtMostThree();
        drawInPlaceOfWhatWas();
        drawTwoToFour();
        CHECK.close();
    }

    private static void due(String call, long got, long want) {
        CHECK.due(call, got, want);
    }

    private static ScopedPhrases told(String text) {
        ScopedPhrases x = new ScopedPhrases();
        CHECK.that("'" + text + "' is taken", Check.tell(x, text) > 0);
        return x;
    }

    // ---- promise 6

    private static void ruleOfNoSuch() {
        CHECK.of("promise 6: BAD");
        ScopedPhrases x = new ScopedPhrases();
        for (int what : new int[] {-1, -2, MIN, 6, 7, MAX}) {
            due("rule(" + what + ")", x.rule(what), BAD);
        }
    }

    private static void ruleLeastAndMost() {
        CHECK.of("promise 6: 0 PHRASES, 1 the OBJECT's number, 2 the VERB, 3 READINGS");
        for (int s = 0; s < STRUCTURES.length; s++) {
            ScopedPhrases x = told(STRUCTURES[s]);
            due("rule(0) of '" + STRUCTURES[s] + "'", x.rule(0), PHRASES[s]);
            due("rule(1) of '" + STRUCTURES[s] + "'", x.rule(1), OBJECTS[s]);
            due("rule(2) of '" + STRUCTURES[s] + "'", x.rule(2), 0);
            due("rule(3) of '" + STRUCTURES[s] + "'", x.rule(3), READINGS[s]);
        }
        due("rule(2) of likes", told("no man that sees no man likes no man;").rule(2), 1);
    }

    private static void ruleUnlikeLeastAndMost() {
        CHECK.of("promise 6: 4 READINGS of which no lesser one is ALIKE");
        due("all are alike", told("some man that sees some dog likes some man that likes some man;").rule(4), 1);
        due("none are alike", told("every dog that likes no man sees no man;").rule(4), 5);
        due("of five three", told("every man that likes no man likes some man;").rule(4), 3);
        due("of five two", told("every man that likes every man likes every man;").rule(4), 2);
        due("of two one", told("one man sees one dog;").rule(4), 1);
        due("of two two", told("no man sees no dog;").rule(4), 2);
        due("of fourteen all", told("one dog that likes no man that sees every dog sees some man;").rule(4), 14);
    }

    private static void ruleThings() {
        CHECK.of("promise 6: 5 THINGS of THE WORLD");
        ScopedPhrases x = new ScopedPhrases();
        due("at first", x.rule(5), 1);
        for (int n = 4; n >= 1; n--) {
            x.things(n);
            due("things(" + n + ")", x.rule(5), n);
        }
        x.world(4127);
        due("world(4127)", x.rule(5), 2);
        x.witness(0, 1);
        due("witness", x.rule(5), 1);
        x.sheet(0, 0, 40);
        x.read(0, 0, 0, 4);
        due("read", x.rule(5), 4);
    }

    // ---- promise 7

    private static void phraseOfNoSuch() {
        CHECK.of("promise 7: Of a PHRASE .. BAD");
        for (int s = 0; s < STRUCTURES.length; s++) {
            ScopedPhrases x = told(STRUCTURES[s]);
            for (int what = 0; what < 6; what++) {
                for (int p : new int[] {-1, MIN, PHRASES[s], PHRASES[s] + 1, 4, MAX}) {
                    due("phrase(" + p + ", " + what + ") of " + PHRASES[s], x.phrase(p, what), BAD);
                }
                CHECK.that("the last one is", x.phrase(PHRASES[s] - 1, what) != BAD);
            }
        }
    }

    private static void phraseWhatOfNoSuch() {
        CHECK.of("promise 7: 0 QUANTIFIER .. 5 .. BAD");
        ScopedPhrases x = told(STRUCTURES[3]);
        for (int p = 0; p < 4; p++) {
            for (int what : new int[] {-1, MIN, 6, 7, MAX}) {
                due("phrase(" + p + ", " + what + ")", x.phrase(p, what), BAD);
            }
        }
    }

    private static void phraseWithoutHost() {
        CHECK.of("promise 7: 2 HOST (NONE)");
        for (int s = 0; s < STRUCTURES.length; s++) {
            ScopedPhrases x = told(STRUCTURES[s]);
            for (int p = 0; p < PHRASES[s]; p++) {
                due("host of " + p, x.phrase(p, 2), p == 0 || p == OBJECTS[s] ? NONE : p - 1);
            }
        }
    }

    private static void phraseThatIsNoHost() {
        CHECK.of("promise 7: 3 its VERB (NONE: it is no HOST), 4 the PHRASE whose HOST it is (NONE)");
        for (int s = 0; s < STRUCTURES.length; s++) {
            ScopedPhrases x = told(STRUCTURES[s]);
            for (int p = 0; p < PHRASES[s]; p++) {
                boolean host = p != OBJECTS[s] - 1 && p != PHRASES[s] - 1;
                due("guest of " + p, x.phrase(p, 4), host ? p + 1 : NONE);
                CHECK.that("verb of " + p, (x.phrase(p, 3) == NONE) == !host);
            }
        }
        ScopedPhrases x = told("no man that likes some dog sees one dog that sees some man;");
        due("verb of 0", x.phrase(0, 3), 1);
        due("verb of 1", x.phrase(1, 3), NONE);
        due("verb of 2", x.phrase(2, 3), 0);
        due("verb of 3", x.phrase(3, 3), NONE);
    }

    private static void hostsAbove() {
        CHECK.of("promise 7: 5 how many HOSTS are one above another over it");
        int[][] over = {{0, 0}, {0, 1, 0}, {0, 0, 1}, {0, 1, 2, 0}, {0, 1, 0, 1}, {0, 0, 1, 2}};
        for (int s = 0; s < STRUCTURES.length; s++) {
            ScopedPhrases x = told(STRUCTURES[s]);
            for (int p = 0; p < PHRASES[s]; p++) {
                due("hosts over " + p + " of '" + STRUCTURES[s] + "'", x.phrase(p, 5), over[s][p]);
            }
        }
    }

    // ---- promise 8

    private static void refused(ScopedPhrases x, int p, int what, int v) {
        String before = Check.sentence(x);
        due("becomes(" + p + ", " + what + ", " + v + ")", x.becomes(p, what, v), BAD);
        CHECK.same("the sentence", Check.sentence(x), before);
    }

    private static void becomesOfNoSuchPhrase() {
        CHECK.of("promise 8: of a PHRASE .. BAD");
        for (int s = 0; s < STRUCTURES.length; s++) {
            ScopedPhrases x = told(STRUCTURES[s]);
            for (int p : new int[] {-1, MIN, PHRASES[s], 4, MAX}) {
                refused(x, p, 0, 0);
                refused(x, p, 1, 0);
            }
        }
    }

    private static void becomesWhatOfNoSuch() {
        CHECK.of("promise 8: QUANTIFIER (what 0), NOUN (1), VERB (2) .. BAD");
        ScopedPhrases x = new ScopedPhrases();
        for (int what : new int[] {-1, MIN, 3, 4, MAX}) {
            refused(x, 0, what, 0);
            refused(x, 0, what, 1);
        }
    }

    private static void becomesTooSmallOrLarge() {
        CHECK.of("promise 8: becomes v .. BAD");
        for (int p = 0; p < 4; p++) {
            for (int v : new int[] {-1, MIN, 4, 5, MAX}) {
                refused(told(STRUCTURES[4]), p, 0, v);
            }
            for (int v : new int[] {-1, MIN, 2, 3, MAX}) {
                refused(told(STRUCTURES[4]), p, 1, v);
                refused(told(STRUCTURES[4]), p, 2, v);
            }
        }
    }

    private static void becomesLeastAndMost() {
        CHECK.of("promise 8: becomes v: what it was");
        ScopedPhrases x = told(STRUCTURES[3]);
        for (int p = 0; p < 4; p++) {
            x.becomes(p, 0, 0);
            x.becomes(p, 1, 0);
            int was = 0;
            for (int v : new int[] {3, 0, 1, 2, 3}) {
                due("quantifier of " + p + " was", x.becomes(p, 0, v), was);
                due("and is", x.phrase(p, 0), v);
                was = v;
            }
            due("noun of " + p + " was", x.becomes(p, 1, 1), 0);
            due("and is", x.phrase(p, 1), 1);
            due("noun of " + p + " was", x.becomes(p, 1, 0), 1);
            due("and is", x.phrase(p, 1), 0);
        }
        due("verb was", x.becomes(0, 2, 1), 0);
        due("and is", x.rule(2), 1);
        due("verb was", x.becomes(0, 2, 0), 1);
        due("and is", x.rule(2), 0);
    }

    private static void becomesTheSame() {
        CHECK.of("promise 8: what it was (the same)");
        ScopedPhrases x = new ScopedPhrases();
        due("quantifier", x.becomes(1, 0, 1), 1);
        due("noun", x.becomes(1, 1, 1), 1);
        due("verb", x.becomes(1, 2, 0), 0);
        CHECK.same("sentence", Check.sentence(x), "every man sees some dog;");
        due("many", x.many(1), 1916);
    }

    private static void verbAsksNoPhrase() {
        CHECK.of("promise 8: VERB (2; p is not asked)");
        ScopedPhrases x = new ScopedPhrases();
        int was = 0;
        for (int p : new int[] {0, 1, 2, 3, 4, -1, MIN, MAX}) {
            due("becomes(" + p + ", 2, " + (1 - was) + ")", x.becomes(p, 2, 1 - was), was);
            was = 1 - was;
            due("the verb", x.rule(2), was);
            due("v is asked", x.becomes(p, 2, 2), BAD);
        }
    }

    private static void becomesIsTheSentenceAlone() {
        CHECK.of("promise 8: VERB of the SENTENCE, QUANTIFIER, NOUN of a PHRASE (and no other)");
        ScopedPhrases x = told("no man that likes some dog sees one dog that sees some man;");
        x.becomes(0, 2, 1);
        CHECK.same("verb", Check.sentence(x), "no man that likes some dog likes one dog that sees some man;");
        x.becomes(2, 1, 0);
        CHECK.same("noun", Check.sentence(x), "no man that likes some dog likes one man that sees some man;");
        x.becomes(3, 0, 0);
        CHECK.same("quantifier", Check.sentence(x), "no man that likes some dog likes one man that sees every man;");
        // an IMAGE is not the SENTENCE
        x.keep(0);
        x.becomes(0, 0, 3);
        x.back(0);
        CHECK.same("image", Check.sentence(x), "no man that likes some dog likes one man that sees every man;");
    }

    // ---- promise 9

    /** Texts worked out apart from the class, with numbers of any length. */
    private static void drawn(int seed, String text, int phrases) {
        ScopedPhrases x = new ScopedPhrases();
        due("draw(" + seed + ")", x.draw(seed), phrases);
        due("rule(0)", x.rule(0), phrases);
        CHECK.same("sentence of draw(" + seed + ")", Check.sentence(x), text);
    }

    private static void drawSeeds() {
        CHECK.of("promise 9: By a seed a SENTENCE");
        drawn(0, "every man that likes no dog likes no man;", 3);
        drawn(1, "no man likes one dog that likes every man;", 3);
        drawn(3, "one dog sees no man;", 2);
        drawn(9, "every dog likes no man;", 2);
        ScopedPhrases x = new ScopedPhrases();
        x.draw(5);
        x.draw(1);
        CHECK.same("no seed before counts", Check.sentence(x), "no man likes one dog that likes every man;");
    }

    private static void drawWrapsAround() {
        CHECK.of("promise 9: seed times 1103515245 and 12345; bits 16 to 30 of it are got");
        drawn(-1, "some dog that sees some man that likes every man likes one man;", 4);
        drawn(MAX, "some dog that sees some man that likes every man likes one man;", 4);
        drawn(MIN, "every man that likes no dog likes no man;", 3);
        drawn(123456, "some man that sees one dog likes every man that likes every dog;", 4);
    }

    private static void drawAtMostTwo() {
        CHECK.of("promise 9: with this one at most 2 PHRASES");
        // the third PHRASE got 0, too, but is no HOST; what is got next is the VERB
        drawn(37, "some man that likes no dog that likes no man sees every dog;", 4);
        drawn(43, "one man that sees some dog that sees one man likes no dog;", 4);
        drawn(51, "some man that sees one man that likes one dog likes no dog;", 4);
        drawn(7, "every man that sees one dog that sees some dog likes no man;", 4);
        drawn(6, "no dog that sees no dog likes one man;", 3);
    }

    private static void drawAtMostThree() {
        CHECK.of("promise 9: (at most 3, as OBJECT is drawn)");
        drawn(49, "some dog likes some dog that likes one man that sees some man;", 4);
        drawn(54, "every man likes one dog that sees some man that sees one dog;", 4);
        drawn(53, "no man that likes no dog likes one man that likes one dog;", 4);
        drawn(22, "no dog that sees no man that sees one man sees some man;", 4);
        drawn(52, "every dog that sees some man that likes some dog sees one dog;", 4);
        drawn(34, "no man likes no man that likes every dog that likes no man;", 4);
        drawn(35, "every dog that sees one dog likes no dog that sees one dog;", 4);
        drawn(2, "every dog sees some dog that likes no dog;", 3);
    }

    private static void drawInPlaceOfWhatWas() {
        CHECK.of("promise 9: By a seed a SENTENCE (and nothing else)");
        ScopedPhrases x = new ScopedPhrases();
        x.things(3);
        x.is(0, 2, 1);
        x.sheet(0, 0, 5);
        x.keep(1);
        Check.feed(x, "?");
        int[] seeds = {7, 3, 0, 9, 123456};
        int[] phrases = {4, 2, 3, 2, 4};
        int[] readings = {14, 2, 5, 2, 14};
        for (int i = 0; i < seeds.length; i++) {
            due("draw(" + seeds[i] + ")", x.draw(seeds[i]), phrases[i]);
            due("phrases", x.rule(0), phrases[i]);
            due("one phrase more", x.phrase(phrases[i], 0), BAD);
            due("readings", x.rule(3), readings[i]);
            due("one reading more", x.many(readings[i]), BAD);
        }
        due("things", x.rule(5), 3);
        due("told(0, 2, 0)", x.told(0, 2, 0), 1);
        due("cells", x.count(2), 5);
        due("images", x.count(0), 1);
        due("bytes", x.count(1), 1);
        due("fault", x.fault(), 0);
    }

    private static void drawTwoToFour() {
        CHECK.of("promise 9: PHRASES (2 to 4)");
        int[] seen = new int[5];
        for (int i = -600; i < 600; i++) {
            ScopedPhrases x = new ScopedPhrases();
            int n = x.draw(i * 1789569);
            CHECK.that("draw(" + i * 1789569 + ") is 2 to 4", n >= 2 && n <= 4);
            CHECK.that("the object is 1 to 3", x.rule(1) >= 1 && x.rule(1) <= Math.min(3, n - 1));
            if (n >= 2 && n <= 4) {
                seen[n]++;
            }
        }
        CHECK.that("each comes", seen[2] > 0 && seen[3] > 0 && seen[4] > 0);
    }
}
