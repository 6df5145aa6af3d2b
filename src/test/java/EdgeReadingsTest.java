/** Boundary cases of readings: the document's part 2 and promises 10 to 20, each sentence with a test of its own. */
public final class EdgeReadingsTest {
    private static final Check CHECK = new Check("EdgeReadingsTest");
    private static final int MIN = Integer.MIN_VALUE, MAX = Integer.MAX_VALUE;
    private static final int BAD = ScopedPhrases.BAD, NONE = ScopedPhrases.NONE;
    private static final String[] STRUCTURES = {
        "no man sees one dog;", "no man that likes some dog sees one dog;", "no man sees one dog that sees some man;",
        "no man that likes some dog that likes some man sees one dog;",
        "no man that likes some dog sees one dog that sees some man;",
        "no man sees one dog that sees some man that likes some dog;"};
    private static final int[] PHRASES = {2, 3, 3, 4, 4, 4};
    private static final int[] OBJECTS = {1, 2, 1, 3, 2, 1};
    private static final int[] READINGS = {2, 5, 5, 14, 14, 14};
    /** Of its READINGS the last one HOLDS in no SMALL WORLD. */
    private static final String EMPTY = "every man that likes no man likes some man;";
    /** Of its READINGS 0 and 3 HOLD in all of them. */
    private static final String ALL = "every man that likes every man likes every man;";

    public static void main(String[] args) {
        hostlessAtTheTop();
        rowsOfAChain();
        rowsOfTwoHosts();
        rowsOfAnObjectChain();
        everyWithNoneGood();
        quantifierCounts();
        withinWithNoneGood();
        toItself();
        withinNoSuch();
        aheadNoSuch();
        rowNoSuch();
        firstRowsInOrder();
        readingTooSmallOrLarge();
        readingNotJustOnce();
        readingLeadingZeros();
        holdsNoSuch();
        holdsInTheWorldOfFour();
        holdsWithFourPhrases();
        smallNoSuch();
        smallLeastAndMost();
        smallBitFourIsNothing();
        smallLeavesTheWorld();
        manyNoSuch();
        manyNoneAndAll();
        alikeNoSuch();
        alikePerhapsItself();
        alikeInSmallWorldsAlone();
        unlikeInTheLeastWorldsAlone();
        entailsNoSuch();
        entailsNoneAndAll();
        mostNoSuch();
        mostFirst();
        mostNone();
        witnessNoSuch();
        witnessNone();
        witnessFirst();
        witnessIsTheWorld();
        answersFollowBecomes();
        answersFollowTheText();
        answersFollowDraw();
        answersFollowBack();
        CHECK.close();
    }

    private static void due(String call, long got, long want) {
        CHECK.due(call, got, want);
    }

    private static ScopedPhrases told(String text) {
        ScopedPhrases x = new ScopedPhrases();
        CHECK.that("'" + text + "' is taken", Check.tell(x, text) > 0);
        return x;
    }

    private static int[] noReading(int readings) {
        return new int[] {-1, -2, MIN, readings, readings + 1, 24, MAX};
    }

    // ---- part 2

    private static void hostlessAtTheTop() {
        CHECK.of("2: a PHRASE without HOST is at THE TOP");
        for (int s = 0; s < STRUCTURES.length; s++) {
            ScopedPhrases x = told(STRUCTURES[s]);
            for (int r = 0; r < READINGS[s]; r++) {
                due("within(" + r + ", 0)", x.within(r, 0), NONE);
                due("within(" + r + ", object)", x.within(r, OBJECTS[s]), NONE);
            }
        }
    }

    /** Of every row the READING that it makes, in order: rows, and the READINGS of them. */
    private static void rows(ScopedPhrases x, int[] readings) {
        int[] rows = {
            123, 132, 213, 231, 312, 321, 1023, 1032, 1203, 1230, 1302, 1320, 2013, 2031, 2103, 2130, 2301, 2310,
            3012, 3021, 3102, 3120, 3201, 3210};
        int next = 0;
        for (int i = 0; i < rows.length; i++) {
            due("reading(" + rows[i] + ")", x.reading(rows[i]), readings[i]);
            if (readings[i] == next) {
                int figures = 0;
                for (int j = 0; j < 4; j++) {
                    figures = figures * 10 + x.row(next, j);
                }
                due("first row of " + next, figures, rows[i]);
                next++;
            }
        }
        due("readings", x.rule(3), next);
    }

    private static void rowsOfAChain() {
        CHECK.of("2: as long as y is WITHIN a PHRASE z, and x comes ahead of z, y becomes z");
        ScopedPhrases x = told(STRUCTURES[3]);
        rows(x, new int[] {0, 0, 1, 1, 0, 1, 2, 2, 2, 3, 3, 3, 4, 4, 5, 6, 7, 8, 9, 10, 11, 11, 12, 13});
        due("213: 2 is ahead of 1, behind 0: where 1 is", x.within(1, 2), 0);
        due("213: it is ahead there", x.ahead(1, 2), 0);
        due("213: 1 is behind it", x.ahead(1, 1), 1);
        due("2013: 2 is ahead of 0, too: where 0 is", x.within(4, 2), NONE);
        due("2013: 1 stays", x.within(4, 1), 0);
        due("2103: 1 is at the top, 2 where it is", x.within(5, 2), NONE);
        due("2103: its order", x.ahead(5, 2), 0);
    }

    private static void rowsOfTwoHosts() {
        CHECK.of("2: Two rows make the same READING, if every PHRASE is at the same, and all orders are the same");
        rows(told(STRUCTURES[4]), new int[] {
            0, 1, 0, 0, 1, 1, 2, 3, 4, 4, 5, 6, 7, 7, 8, 8, 7, 8, 9, 9, 10, 11, 12, 13});
    }

    private static void rowsOfAnObjectChain() {
        CHECK.of("2: READINGS are numbered 0 on by the first row that makes each, rows being in order");
        rows(told(STRUCTURES[5]), new int[] {
            0, 1, 2, 2, 3, 4, 5, 6, 5, 5, 6, 6, 7, 7, 8, 8, 7, 8, 9, 10, 11, 11, 12, 13});
    }

    private static void everyWithNoneGood() {
        CHECK.of("2: EVERY: given each t that is GOOD (none is); SOME: at least one; NO: none; ONE: just one");
        ScopedPhrases x = new ScopedPhrases();
        x.becomes(1, 0, 1);
        for (int n = 1; n <= 4; n++) {
            x.things(n);
            int[] holds = {1, 0, 1, 0};
            for (int q = 0; q < 4; q++) {
                x.becomes(0, 0, q);
                due("quantifier " + q + " of no men among " + n, x.holds(0), holds[q]);
            }
        }
    }

    /** Things 0 on are men, as many as men; of them as many as seeing see thing 3, the only dog. */
    private static void quantifierCounts() {
        CHECK.of("2: EVERY .. SOME: at least one; NO: none; ONE: just one");
        for (int men = 0; men <= 3; men++) {
            for (int seeing = 0; seeing <= men; seeing++) {
                ScopedPhrases x = new ScopedPhrases();
                x.things(4);
                x.is(1, 3, 1);
                for (int t = 0; t < men; t++) {
                    x.is(0, t, 1);
                    x.does(0, t, 3, t < seeing ? 1 : 0);
                }
                boolean[] holds = {seeing == men, seeing >= 1, seeing == 0, seeing == 1};
                for (int q = 0; q < 4; q++) {
                    x.becomes(0, 0, q);
                    due("quantifier " + q + ": " + seeing + " of " + men, x.holds(0), holds[q] ? 1 : 0);
                    due("the other way round", x.holds(1), holds[q] ? 1 : 0);
                }
            }
        }
    }

    private static void withinWithNoneGood() {
        CHECK.of("2: let GOOD be those THINGS t that, given t for x, WITHIN x does");
        // one man, no dog: he sees every dog and no dog, but not some dog, nor just one
        int[] good = {1, 0, 1, 0};
        ScopedPhrases x = told("some man that sees every dog sees some man;");
        x.is(0, 0, 1);
        x.does(0, 0, 0, 1);
        for (int q = 0; q < 4; q++) {
            x.becomes(1, 0, q);
            due("host with guest " + q, x.holds(0), good[q]);
        }
        // the guest at THE TOP is asked first: then no dog at all decides
        for (int q = 0; q < 4; q++) {
            x.becomes(1, 0, q);
            due("guest " + q + " at the top", x.holds(1), good[q]);
        }
        x.becomes(1, 0, 1);
        x.is(1, 0, 1);
        due("he is a dog himself and sees himself", x.holds(0), 1);
        x.is(0, 0, 0);
        due("a dog, but no man", x.holds(0), 0);
    }

    private static void toItself() {
        CHECK.of("2: which THING does that to which (perhaps to itself)");
        ScopedPhrases x = told("some man likes some man;");
        x.is(0, 0, 1);
        due("he does not", x.holds(0), 0);
        due("does(1, 0, 0, 1)", x.does(1, 0, 0, 1), 0);
        due("he does", x.holds(0), 1);
        due("told(3, 0, 0)", x.told(3, 0, 0), 1);
        due("told(2, 0, 0)", x.told(2, 0, 0), 0);
    }

    // ---- promises 10, 11, 12

    private static void withinNoSuch() {
        CHECK.of("promise 10: Where a PHRASE is in a READING .. BAD");
        for (int s = 0; s < STRUCTURES.length; s++) {
            ScopedPhrases x = told(STRUCTURES[s]);
            for (int r : noReading(READINGS[s])) {
                due("within(" + r + ", 0) of " + READINGS[s], x.within(r, 0), BAD);
            }
            for (int p : new int[] {-1, MIN, PHRASES[s], 4, 5, MAX}) {
                due("within(0, " + p + ") of " + PHRASES[s], x.within(0, p), BAD);
                due("within(last, " + p + ") of " + PHRASES[s], x.within(READINGS[s] - 1, p), BAD);
            }
            due("within(last, last)", x.within(READINGS[s] - 1, PHRASES[s] - 1), NONE);
        }
    }

    private static void aheadNoSuch() {
        CHECK.of("promise 11: How many are ahead of a PHRASE .. BAD");
        for (int s = 0; s < STRUCTURES.length; s++) {
            ScopedPhrases x = told(STRUCTURES[s]);
            for (int r : noReading(READINGS[s])) {
                due("ahead(" + r + ", 0) of " + READINGS[s], x.ahead(r, 0), BAD);
            }
            for (int p : new int[] {-1, MIN, PHRASES[s], 4, 5, MAX}) {
                due("ahead(0, " + p + ") of " + PHRASES[s], x.ahead(0, p), BAD);
                due("ahead(last, " + p + ") of " + PHRASES[s], x.ahead(READINGS[s] - 1, p), BAD);
            }
            // in the last READING all are at THE TOP, the last one first
            for (int p = 0; p < PHRASES[s]; p++) {
                due("ahead(last, " + p + ")", x.ahead(READINGS[s] - 1, p), PHRASES[s] - 1 - p);
            }
        }
    }

    private static void rowNoSuch() {
        CHECK.of("promise 12: The i-th PHRASE (0 on) .. BAD");
        for (int s = 0; s < STRUCTURES.length; s++) {
            ScopedPhrases x = told(STRUCTURES[s]);
            for (int r : noReading(READINGS[s])) {
                due("row(" + r + ", 0) of " + READINGS[s], x.row(r, 0), BAD);
            }
            for (int i : new int[] {-1, MIN, PHRASES[s], 4, 5, MAX}) {
                due("row(0, " + i + ") of " + PHRASES[s], x.row(0, i), BAD);
                due("row(last, " + i + ") of " + PHRASES[s], x.row(READINGS[s] - 1, i), BAD);
            }
        }
    }

    private static void firstRowsInOrder() {
        CHECK.of("promise 12: of the first row that makes a READING");
        for (int s = 0; s < STRUCTURES.length; s++) {
            ScopedPhrases x = told(STRUCTURES[s]);
            int before = -1;
            for (int r = 0; r < READINGS[s]; r++) {
                int figures = 0;
                for (int i = 0; i < PHRASES[s]; i++) {
                    figures = figures * 10 + x.row(r, i);
                }
                CHECK.that("rows in order", figures > before);
                due("reading of its first row", x.reading(figures), r);
                before = figures;
            }
            for (int i = 0; i < PHRASES[s]; i++) {
                due("row(0, " + i + ")", x.row(0, i), i);
                due("row(last, " + i + ")", x.row(READINGS[s] - 1, i), PHRASES[s] - 1 - i);
            }
        }
    }

    // ---- promise 13

    private static void readingTooSmallOrLarge() {
        CHECK.of("promise 13: PHRASES as figures of a number (too small, too large)");
        for (int s = 0; s < STRUCTURES.length; s++) {
            ScopedPhrases x = told(STRUCTURES[s]);
            for (int figures : new int[] {-1, -10, -12, -123, -210, -3210, MIN, MIN + 1, MAX}) {
                due("reading(" + figures + ") of " + PHRASES[s], x.reading(figures), BAD);
            }
            // one figure too many, with those of a row behind it
            int[] row = {10, 210, 210, 3210, 3210, 3210};
            int power = PHRASES[s] == 2 ? 100 : PHRASES[s] == 3 ? 1000 : 10000;
            for (int first = 1; first <= 9; first++) {
                due("a figure more: " + first, x.reading(first * power + row[s]), BAD);
            }
            due("many figures more", x.reading(1000000000 + row[s]), BAD);
            CHECK.that("the row itself", x.reading(row[s]) == READINGS[s] - 1);
        }
    }

    private static void readingNotJustOnce() {
        CHECK.of("promise 13: BAD: not each just once");
        for (int s = 0; s < STRUCTURES.length; s++) {
            ScopedPhrases x = null;
            int n = PHRASES[s];
            int taken = 0;
            for (int figures = 0; figures < 10000; figures++) {
                // an object is used for at most 512 calls
                x = figures % 400 == 0 ? told(STRUCTURES[s]) : x;
                int seen = 0;
                int left = figures;
                for (int i = 0; i < n; i++) {
                    seen |= 1 << (left % 10);
                    left /= 10;
                }
                boolean each = left == 0 && seen == (1 << n) - 1;
                int answer = x.reading(figures);
                CHECK.that("reading(" + figures + ") of " + n, each ? answer >= 0 && answer < READINGS[s] : answer == BAD);
                taken += each ? 1 : 0;
            }
            due("rows", taken, n == 2 ? 2 : n == 3 ? 6 : 24);
        }
    }

    private static void readingLeadingZeros() {
        CHECK.of("promise 13: from the last one on (of 0 ahead of 2 ahead of 1: 21)");
        due("of two: 1", told(STRUCTURES[0]).reading(1), 0);
        due("of two: 10", told(STRUCTURES[0]).reading(10), 1);
        ScopedPhrases x = told("one dog sees no man that likes some man;");
        int r = x.reading(21);
        due("21 is 0, 2, 1: so 2 is at the top", x.within(r, 2), NONE);
        due("21: 2 is behind 0", x.ahead(r, 2), 1);
        due("21: 1 is last", x.ahead(r, 1), 2);
        due("21: first row", x.row(r, 1), 2);
        due("of three: 12", x.reading(12), 0);
        due("of three: 1", x.reading(1), BAD);
        due("of three: 2", x.reading(2), BAD);
        due("of four: 123", told(STRUCTURES[3]).reading(123), 0);
        due("of four: 12", told(STRUCTURES[3]).reading(12), BAD);
        due("of four: 0", told(STRUCTURES[3]).reading(0), BAD);
    }

    // ---- promise 14

    private static void holdsNoSuch() {
        CHECK.of("promise 14: BAD");
        for (int s = 0; s < STRUCTURES.length; s++) {
            ScopedPhrases x = told(STRUCTURES[s]);
            for (int r : noReading(READINGS[s])) {
                due("holds(" + r + ") of " + READINGS[s], x.holds(r), BAD);
            }
            CHECK.that("the last one is", x.holds(READINGS[s] - 1) != BAD);
        }
    }

    private static void holdsInTheWorldOfFour() {
        CHECK.of("promise 14: in THE WORLD (1 to 4 THINGS)");
        // each thing is a man and sees itself alone, till the last one sees nothing
        for (int n = 1; n <= 4; n++) {
            ScopedPhrases x = told("every man sees one man;");
            x.things(n);
            for (int t = 0; t < n; t++) {
                x.is(0, t, 1);
                x.does(0, t, t, 1);
            }
            due("every one of " + n, x.holds(0), 1);
            due("one man whom every one sees, of " + n, x.holds(1), n == 1 ? 1 : 0);
            x.does(0, n - 1, n - 1, 0);
            due("but the last of " + n, x.holds(0), 0);
            x.is(0, n - 1, 0);
            due("who is no man, of " + n, x.holds(0), 1);
        }
    }

    /** Some SMALL WORLDS of both sizes, the least and the most among them. */
    private static final int[] SOME_WORLDS = {0, 7, 31, 32, 100, 777, 2345, 4127};

    /** A READING's answers for SOME_WORLDS, asked both ways. */
    private static void inSomeWorlds(ScopedPhrases x, int r, int... want) {
        for (int i = 0; i < SOME_WORLDS.length; i++) {
            int w = SOME_WORLDS[i];
            due("small(" + r + ", " + w + ")", x.small(r, w), want[i]);
            x.world(w);
            due("holds(" + r + ") in " + w, x.holds(r), want[i]);
        }
    }

    /** Answers worked out apart from the class. */
    private static void holdsWithFourPhrases() {
        CHECK.of("1: PHRASES 0 on (2 to 4) .. 2: A READING HOLDS in a WORLD");
        String chainsOfTwo = "some man that likes no dog sees one man that likes every dog;";
        many(chainsOfTwo, 1240, 1504, 3506, 3512, 3560, 3504, 3574, 856, 552, 1504, 3280, 3346, 1504, 1574);
        ScopedPhrases x = told(chainsOfTwo);
        inSomeWorlds(x, 0, 0, 0, 0, 0, 0, 1, 0, 0);
        inSomeWorlds(x, 13, 1, 0, 0, 1, 0, 1, 0, 0);
        String subjectChain = "one dog that likes no man that sees every dog sees some man;";
        many(subjectChain, 1564, 1516, 3618, 3602, 2144, 3426, 3408, 2246, 2840, 1788, 1698, 2706, 1974, 2572);
        x = told(subjectChain);
        inSomeWorlds(x, 0, 0, 1, 0, 0, 0, 1, 0, 0);
        inSomeWorlds(x, 13, 0, 1, 0, 0, 0, 1, 1, 1);
        String objectChain = "every man likes one dog that sees no man that likes some dog;";
        many(objectChain, 2226, 2074, 3280, 2082, 2716, 1252, 1056, 3504, 3498, 1810, 2448, 1056, 2640, 2626);
        x = told(objectChain);
        inSomeWorlds(x, 0, 1, 0, 0, 1, 1, 0, 1, 0);
        inSomeWorlds(x, 13, 0, 1, 0, 0, 1, 0, 1, 1);
    }

    // ---- promise 15

    private static void smallNoSuch() {
        CHECK.of("promise 15: Whether a READING HOLDS in a SMALL WORLD .. BAD");
        for (int s = 0; s < STRUCTURES.length; s++) {
            ScopedPhrases x = told(STRUCTURES[s]);
            for (int r : noReading(READINGS[s])) {
                due("small(" + r + ", 0) of " + READINGS[s], x.small(r, 0), BAD);
            }
            for (int w : new int[] {-1, MIN, 4128, 4129, MAX}) {
                due("small(0, " + w + ")", x.small(0, w), BAD);
            }
        }
    }

    private static void smallLeastAndMost() {
        CHECK.of("2: SMALL WORLDS: numbers 0 to 31 those of one THING, 32 to 4127 those of two");
        ScopedPhrases x = told("some man sees some dog;");
        // the one thing is man, dog and sees itself: bits 0, 1, 2
        for (int w = 0; w < 32; w++) {
            due("small(0, " + w + ")", x.small(0, w), (w & 7) == 7 ? 1 : 0);
        }
        due("small(0, 32): nothing", x.small(0, 32), 0);
        due("small(0, 4127): all", x.small(0, 4127), 1);
        // thing 1 is a man (bit 1), thing 0 a dog (bit 2), 1 sees 0 (bit 6)
        due("man 1 sees dog 0", x.small(0, 32 + 2 + 4 + 64), 1);
        due("he likes it alone", x.small(0, 32 + 2 + 4 + 1024), 0);
        due("it sees him", x.small(0, 32 + 2 + 4 + 32), 0);
        // thing 0 a man (bit 0), thing 1 a dog (bit 3), 0 sees 1 (bit 5)
        due("man 0 sees dog 1", x.small(0, 32 + 1 + 8 + 32), 1);
        x.becomes(0, 2, 1);
        due("likes: verb 1 of 1 to 0", x.small(0, 32 + 2 + 4 + 1024), 1);
        due("likes: verb 1 of 0 to 1", x.small(0, 32 + 1 + 8 + 512), 1);
        due("likes: verb 1 of one thing", x.small(0, 1 + 2 + 8), 1);
        due("likes: verb 0 of one thing", x.small(0, 1 + 2 + 4), 0);
    }

    private static void smallBitFourIsNothing() {
        CHECK.of("2: (of one THING bits 0 and 1 NOUNS, 2 and 3 VERBS; bit 4 nothing)");
        for (String text : STRUCTURES) {
            ScopedPhrases x = told(text);
            for (int w = 0; w < 16; w++) {
                due("small(0, " + (w + 16) + ")", x.small(0, w + 16), x.small(0, w));
            }
        }
        ScopedPhrases x = new ScopedPhrases();
        x.world(16);
        due("things of world 16", x.rule(5), 1);
        for (int what = 0; what < 4; what++) {
            due("told(" + what + ", 0, 0) in world 16", x.told(what, 0, 0), 0);
        }
    }

    private static void smallLeavesTheWorld() {
        CHECK.of("promise 15: Whether (and no change)");
        ScopedPhrases x = new ScopedPhrases();
        x.things(3);
        x.is(0, 2, 1);
        x.small(0, 4127);
        x.small(1, 0);
        due("things", x.rule(5), 3);
        due("told(0, 2, 0)", x.told(0, 2, 0), 1);
        due("told(0, 0, 0)", x.told(0, 0, 0), 0);
        due("holds(0)", x.holds(0), 0);
    }

    // ---- promise 16

    private static void manyNoSuch() {
        CHECK.of("promise 16: BAD");
        for (int s = 0; s < STRUCTURES.length; s++) {
            ScopedPhrases x = told(STRUCTURES[s]);
            for (int r : noReading(READINGS[s])) {
                due("many(" + r + ") of " + READINGS[s], x.many(r), BAD);
            }
            CHECK.that("the last one is", x.many(READINGS[s] - 1) >= 0);
        }
    }

    private static void many(String text, int... want) {
        ScopedPhrases x = told(text);
        for (int r = 0; r < want.length; r++) {
            due("many(" + r + ") of '" + text + "'", x.many(r), want[r]);
        }
    }

    private static void manyNoneAndAll() {
        CHECK.of("promise 16: In how many SMALL WORLDS (none, all, between)");
        many(EMPTY, 1096, 1040, 1040, 1096, 0);
        many(ALL, 4128, 3360, 3360, 4128, 3360);
        many("one man that likes every man sees every man;", 652, 1668, 1628, 1668, 1628);
        many("every dog that likes no man sees no man;", 2139, 1723, 3449, 2639, 3449);
        many("no man sees no dog;", 2212, 2212);
        many("some man sees some dog;", 1524, 1524);
    }

    // ---- promise 17

    private static void alikeNoSuch() {
        CHECK.of("promise 17: BAD");
        for (int s = 0; s < STRUCTURES.length; s++) {
            ScopedPhrases x = told(STRUCTURES[s]);
            for (int r : noReading(READINGS[s])) {
                due("alike(" + r + ") of " + READINGS[s], x.alike(r), BAD);
            }
            CHECK.that("the last one is", x.alike(READINGS[s] - 1) >= 0);
        }
    }

    private static void alike(String text, int... want) {
        ScopedPhrases x = told(text);
        for (int r = want.length - 1; r >= 0; r--) {
            due("alike(" + r + ") of '" + text + "'", x.alike(r), want[r]);
        }
    }

    private static void alikePerhapsItself() {
        CHECK.of("promise 17: The least READING that is ALIKE (perhaps itself)");
        alike(EMPTY, 0, 1, 1, 0, 4);
        alike(ALL, 0, 1, 1, 0, 1);
        // 2 and 4 have as many worlds, but not the same ones
        alike("every dog that likes no man sees no man;", 0, 1, 2, 3, 4);
        alike("one man that likes every man sees every man;", 0, 1, 2, 3, 2);
        alike("no man sees no dog;", 0, 1);
        alike("one man sees one dog;", 0, 0);
    }

    private static void alikeInSmallWorldsAlone() {
        CHECK.of("2: Two READINGS are ALIKE, if they HOLD in the same SMALL WORLDS");
        ScopedPhrases x = told("one man sees one dog;");
        x.things(3);
        for (int t = 0; t < 3; t++) {
            x.is(0, t, 1);
            x.is(1, t, 1);
            x.does(0, 2, t, 1);
        }
        x.does(0, 0, 0, 1);
        x.does(0, 1, 1, 1);
        x.does(0, 1, 2, 1);
        due("just one sees just one", x.holds(0), 1);
        due("each is seen by two", x.holds(1), 0);
        due("unlike in a world of three, but alike", x.alike(1), 0);
        due("and entailing", x.entails(0, 1), 1);
        due("no small one is a witness", x.witness(0, 1), NONE);
        due("the world stays", x.rule(5), 3);
    }

    private static void unlikeInTheLeastWorldsAlone() {
        CHECK.of("2: ALIKE, if they HOLD in the same SMALL WORLDS (numbers 0 to 31, too)");
        String text = "one man that likes some man that likes every man sees every man;";
        alike(text, 0, 1, 0, 3, 4, 5, 6, 7, 6, 3, 3, 3, 7, 6);
        ScopedPhrases x = told(text);
        for (int w = 32; w < 4128; w += 37) {
            due("alike in " + w, x.small(1, w), x.small(0, w));
        }
        due("1 does not entail 0", x.entails(1, 0), 0);
        due("0 entails 1", x.entails(0, 1), 1);
        due("witness(1, 0)", x.witness(1, 0), 0);
        due("witness(0, 1)", x.witness(0, 1), NONE);
        due("many(0)", x.many(0), 652);
        due("many(1)", x.many(1), 668);
    }

    // ---- promise 18

    private static void entailsNoSuch() {
        CHECK.of("promise 18: BAD");
        for (int s = 0; s < STRUCTURES.length; s++) {
            ScopedPhrases x = told(STRUCTURES[s]);
            for (int r : noReading(READINGS[s])) {
                due("entails(" + r + ", 0) of " + READINGS[s], x.entails(r, 0), BAD);
                due("entails(0, " + r + ") of " + READINGS[s], x.entails(0, r), BAD);
                due("entails(" + r + ", " + r + ")", x.entails(r, r), BAD);
            }
            due("the last one itself", x.entails(READINGS[s] - 1, READINGS[s] - 1), 1);
        }
    }

    private static void entailsNoneAndAll() {
        CHECK.of("2: a ENTAILS b, if b HOLDS in each in which a does (none, all)");
        ScopedPhrases x = told(EMPTY);
        for (int r = 0; r < 5; r++) {
            due("that which holds in none entails " + r, x.entails(4, r), 1);
            due(r + " entails that which holds in none", x.entails(r, 4), r == 4 ? 1 : 0);
            due(r + " entails itself", x.entails(r, r), 1);
        }
        x = told(ALL);
        for (int r = 0; r < 5; r++) {
            due(r + " entails that which holds in all", x.entails(r, 0), 1);
            due("that which holds in all entails " + r, x.entails(0, r), r == 0 || r == 3 ? 1 : 0);
        }
    }

    // ---- promise 19

    private static void mostNoSuch() {
        CHECK.of("promise 19: BAD");
        ScopedPhrases x = new ScopedPhrases();
        for (int what : new int[] {-1, MIN, 2, 3, MAX}) {
            due("most(" + what + ")", x.most(what), BAD);
        }
    }

    private static void most(String text, int weakest, int strongest) {
        ScopedPhrases x = told(text);
        due("most(1) of '" + text + "'", x.most(1), strongest);
        due("most(0) of '" + text + "'", x.most(0), weakest);
    }

    private static void mostFirst() {
        CHECK.of("promise 19: The first READING that all ENTAIL (what 0), that ENTAILS all (1)");
        most("every man sees some dog;", 0, 1);
        most("some man sees every dog;", 1, 0);
        most("some man sees some dog;", 0, 0);
        most("one man sees one dog;", 0, 0);
        most(ALL, 0, 1);
        most("some man likes some dog that sees some man;", 0, 0);
    }

    private static void mostNone() {
        CHECK.of("promise 19: NONE");
        most(EMPTY, NONE, 4);
        most("no man sees no dog;", NONE, NONE);
        most("every man sees one dog;", NONE, NONE);
        most("every dog that likes no man sees no man;", NONE, NONE);
        ScopedPhrases x = told("no man sees no dog;");
        due("BAD fits first", x.most(2), BAD);
        // READINGS that there were before, with more PHRASES, are none now
        x = told("one dog that sees some man sees one dog that likes no dog;");
        x.most(1);
        Check.tell(x, "every man that sees one dog sees every dog;");
        due("most(1) behind more", x.most(1), NONE);
        due("most(0) behind more", x.most(0), NONE);
    }

    // ---- promise 20

    private static void witnessNoSuch() {
        CHECK.of("promise 20: BAD");
        for (int s = 0; s < STRUCTURES.length; s++) {
            ScopedPhrases x = told(STRUCTURES[s]);
            x.things(3);
            for (int r : noReading(READINGS[s])) {
                due("witness(" + r + ", 0) of " + READINGS[s], x.witness(r, 0), BAD);
                due("witness(0, " + r + ") of " + READINGS[s], x.witness(0, r), BAD);
                due("witness(" + r + ", " + r + ")", x.witness(r, r), BAD);
            }
            due("the last one itself", x.witness(READINGS[s] - 1, READINGS[s] - 1), NONE);
            due("the world stays", x.rule(5), 3);
        }
    }

    private static void witnessNone() {
        CHECK.of("promise 20: NONE: a ENTAILS b");
        ScopedPhrases x = told(EMPTY);
        x.things(4);
        x.does(1, 3, 3, 1);
        for (int r = 0; r < 5; r++) {
            due("witness(4, " + r + ")", x.witness(4, r), NONE);
            due("witness(" + r + ", " + r + ")", x.witness(r, r), NONE);
        }
        due("witness(0, 3)", x.witness(0, 3), NONE);
        due("the world stays", x.rule(5), 4);
        due("its tables stay", x.told(3, 3, 3), 1);
    }

    private static void witnesses(String text, int[][] want) {
        ScopedPhrases x = told(text);
        for (int a = 0; a < want.length; a++) {
            for (int b = 0; b < want.length; b++) {
                due("witness(" + a + ", " + b + ") of '" + text + "'", x.witness(a, b), want[a][b]);
            }
        }
    }

    private static void witnessFirst() {
        CHECK.of("promise 20: the first SMALL WORLD in which a HOLDS, and b does not: its number");
        witnesses("every man sees some dog;", new int[][] {{NONE, 0}, {NONE, NONE}});
        witnesses("every man sees one dog;", new int[][] {{NONE, 0}, {159, NONE}});
        witnesses("no man sees no dog;", new int[][] {{NONE, 2}, {1, NONE}});
        // 15 is the last of one THING that can be one, 32 the first of two
        witnesses("every dog that likes no man sees no man;", new int[][] {
            {NONE, 1, 11, 11, 11}, {373, NONE, 1341, 15, 823}, {5, 1, NONE, 5, 823}, {49, 1, 293, NONE, 293},
            {5, 1, 295, 5, NONE}});
        witnesses("one dog that likes every man sees every man;", new int[][] {
            {NONE, 2079, 1951, 3999, 1951}, {32, NONE, 1951, 1823, 1951}, {32, 3983, NONE, 1823, NONE},
            {32, 2079, 1951, NONE, 1951}, {32, 3983, NONE, 1823, NONE}});
        witnesses(EMPTY, new int[][] {
            {NONE, 9, 9, NONE, 9}, {0, NONE, NONE, 0, 0}, {0, NONE, NONE, 0, 0}, {NONE, 9, 9, NONE, 9},
            {NONE, NONE, NONE, NONE, NONE}});
    }

    private static void witnessIsTheWorld() {
        CHECK.of("promise 20: THE WORLD becomes");
        ScopedPhrases x = told("one dog that likes every man sees every man;");
        x.things(4);
        x.is(0, 3, 1);
        due("witness(1, 0)", x.witness(1, 0), 32);
        due("things", x.rule(5), 2);
        for (int what = 0; what < 4; what++) {
            for (int t = 0; t < 2; t++) {
                for (int u = 0; u < 2; u++) {
                    due("told(" + what + ", " + t + ", " + u + ")", x.told(what, t, u), 0);
                }
            }
        }
        due("no third thing", x.told(0, 2, 0), BAD);
        due("witness(0, 3)", x.witness(0, 3), 3999);
        int bit = 0;
        for (int what = 0; what < 4; what++) {
            for (int t = 0; t < 2; t++) {
                for (int u = 0; u < (what < 2 ? 1 : 2); u++) {
                    due("told(" + what + ", " + t + ", " + u + ")", x.told(what, t, u), ((3999 - 32) >> bit) & 1);
                    bit++;
                }
            }
        }
        due("a holds in it", x.holds(0), 1);
        due("b does not", x.holds(3), 0);
        x = new ScopedPhrases();
        x.things(4);
        due("witness(0, 1)", x.witness(0, 1), 0);
        due("things", x.rule(5), 1);
        due("no second thing", x.told(0, 1, 0), BAD);
    }

    // ---- what has been asked before leaves no trace in the answers

    /** All that many, alike, entails, most and rule 4 tell, and that HOLDS in a world. */
    private static String answers(ScopedPhrases x) {
        StringBuilder text = new StringBuilder();
        int readings = x.rule(3);
        for (int r = 0; r < readings; r++) {
            text.append(x.many(r)).append(' ').append(x.alike(r)).append(' ').append(x.small(r, 777)).append(' ');
            text.append(x.entails(0, r)).append(x.entails(r, readings - 1)).append(", ");
        }
        return text.append(x.rule(4)).append(' ').append(x.most(0)).append(' ').append(x.most(1)).toString();
    }

    /** The answers are those of a new object that has been told the same SENTENCE. */
    private static void asIfNew(String call, ScopedPhrases x, String text) {
        CHECK.same("sentence behind " + call, Check.sentence(x), text);
        CHECK.same("answers behind " + call, answers(x), answers(told(text)));
    }

    private static void answersFollowBecomes() {
        CHECK.of("promise 8: QUANTIFIER (what 0), NOUN (1) of a PHRASE, VERB (2) becomes v");
        ScopedPhrases x = new ScopedPhrases();
        due("many(0): every, some", x.many(0), 2212);
        due("many(1): every, some", x.many(1), 1916);
        due("unlike: every, some", x.rule(4), 2);
        x.becomes(0, 0, 1);
        due("many(0): some, some", x.many(0), 1524);
        due("alike(1): some, some", x.alike(1), 0);
        due("unlike: some, some", x.rule(4), 1);
        x.becomes(0, 0, 0);
        x.becomes(1, 0, 2);
        due("entails(1, 0): every, no", x.entails(1, 0), 0);
        due("witness(1, 0): every, no", x.witness(1, 0), 55);
        due("many(0): every, no", x.many(0), 2604);
        x.becomes(1, 0, 1);
        x.becomes(1, 1, 0);
        due("many(0): every man, some man", x.many(0), 2648);
        due("many(1): every man, some man", x.many(1), 1480);
        x = told("every man that sees one dog sees some dog;");
        due("many(0): sees", x.many(0), 4128);
        due("alike(2): sees", x.alike(2), 1);
        due("most(0): sees", x.most(0), 0);
        x.becomes(0, 2, 1);
        due("most(0): likes", x.most(0), NONE);
        due("alike(2): likes", x.alike(2), 2);
        due("many(0): likes", x.many(0), 3522);
        asIfNew("becomes", x, "every man that sees one dog likes some dog;");
    }

    private static void answersFollowTheText() {
        CHECK.of("1: A text that is taken tells the SENTENCE, in place of what there was");
        String[] texts = {
            "no man sees no dog;", "one man sees one dog;", EMPTY, ALL, STRUCTURES[3], STRUCTURES[4], STRUCTURES[5],
            STRUCTURES[1], "every man sees one dog;"};
        ScopedPhrases x = new ScopedPhrases();
        for (String before : texts) {
            for (String text : texts) {
                x = told(before);
                answers(x);
                Check.tell(x, text);
                asIfNew("text", x, text);
            }
        }
        due("many(0)", x.many(0), 2004);
        due("many(1)", x.many(1), 1516);
        Check.tell(x, "no man sees no;");
        due("many(0) behind a FAULT", x.many(0), 2004);
    }

    private static void answersFollowDraw() {
        CHECK.of("promise 9: By a seed a SENTENCE (its READINGS, too)");
        for (int seed = 0; seed < 12; seed++) {
            ScopedPhrases x = new ScopedPhrases();
            answers(x);
            x.draw(seed);
            asIfNew("draw", x, Check.sentence(x));
            x.draw(seed + 7);
            asIfNew("draw", x, Check.sentence(x));
        }
    }

    private static void answersFollowBack() {
        CHECK.of("promise 27: Both are as IMAGE k (READINGS, too)");
        ScopedPhrases x = told("no man sees no dog;");
        x.keep(0);
        Check.tell(x, EMPTY);
        x.keep(1);
        due("many(4)", x.many(4), 0);
        x.back(0);
        due("many(0)", x.many(0), 2212);
        due("witness(1, 0)", x.witness(1, 0), 1);
        asIfNew("back", x, "no man sees no dog;");
        x.back(1);
        due("many(0)", x.many(0), 1096);
        asIfNew("back", x, EMPTY);
        x.becomes(0, 0, 3);
        answers(x);
        x.back(1);
        asIfNew("back", x, EMPTY);
    }
}
