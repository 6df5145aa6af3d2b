/** Promises 10 to 20: within, ahead, row, reading, holds, small, many, alike, entails, most, witness. */
public final class ReadingsTest {
    private static final Check CHECK = new Check("ReadingsTest");
    private static final int MIN = Integer.MIN_VALUE, MAX = Integer.MAX_VALUE;
    private static final int BAD = ScopedPhrases.BAD, NONE = ScopedPhrases.NONE;

    public static void main(String[] args) {
        threePhrases();
        fourPhrases();
        wrongReadings();
        formulas();
        allSentences();
        weakestAndStrongest();
        witness();
        worldsOfFour();
        CHECK.close();
    }

    private static void due(String call, long got, long want) {
        CHECK.due(call, got, want);
    }

    private static ScopedPhrases told(String text) {
        ScopedPhrases x = new ScopedPhrases();
        CHECK.that("'" + text + "' is taken", Check.tell(x, text) > 0);
        return x;
    }

    /** Each line: the figures of the first row, then for each PHRASE where it is and how many are ahead. */
    private static void expect(ScopedPhrases x, int[][] lines) {
        int n = x.rule(0);
        due("readings", x.rule(3), lines.length);
        for (int r = 0; r < lines.length; r++) {
            int figures = 0;
            for (int i = 0; i < n; i++) {
                figures = figures * 10 + x.row(r, i);
            }
            due("first row of reading " + r, figures, lines[r][0]);
            for (int p = 0; p < n; p++) {
                due("within(" + r + ", " + p + ")", x.within(r, p), lines[r][1 + 2 * p]);
                due("ahead(" + r + ", " + p + ")", x.ahead(r, p), lines[r][2 + 2 * p]);
            }
        }
    }

    private static void threePhrases() {
        ScopedPhrases x = told("every man that sees some dog likes no man;");
        int[][] lines = {
            {12, -4, 0, 0, 0, -4, 1}, {102, -4, 1, -4, 0, -4, 2}, {120, -4, 2, -4, 0, -4, 1},
            {201, -4, 1, 0, 0, -4, 0}, {210, -4, 2, -4, 1, -4, 0}};
        expect(x, lines);
        int[] figures = {12, 21, 102, 120, 201, 210};
        int[] readings = {0, 0, 1, 2, 3, 4};
        for (int i = 0; i < 6; i++) {
            due("reading(" + figures[i] + ")", x.reading(figures[i]), readings[i]);
        }
        for (int wrong : new int[] {0, 1, 2, 11, 13, 112, 1012, 2100, 321, 1120, -12, -210, MIN, MAX}) {
            due("reading(" + wrong + ")", x.reading(wrong), BAD);
        }
        x = new ScopedPhrases();
        due("reading(1) of two", x.reading(1), 0);
        due("reading(10) of two", x.reading(10), 1);
        due("reading(12) of two", x.reading(12), BAD);
        due("reading(101) of two", x.reading(101), BAD);
    }

    private static void fourPhrases() {
        ScopedPhrases x = told("one dog that likes no man that sees every dog sees some man;");
        int[][] lines = {
            {123, -4, 0, 0, 0, 1, 0, -4, 1}, {213, -4, 0, 0, 1, 0, 0, -4, 1}, {1023, -4, 1, -4, 0, 1, 0, -4, 2},
            {1230, -4, 2, -4, 0, 1, 0, -4, 1}, {2013, -4, 1, 0, 0, -4, 0, -4, 2}, {2103, -4, 2, -4, 1, -4, 0, -4, 3},
            {2130, -4, 3, -4, 1, -4, 0, -4, 2}, {2301, -4, 2, 0, 0, -4, 0, -4, 1}, {2310, -4, 3, -4, 2, -4, 0, -4, 1},
            {3012, -4, 1, 0, 0, 1, 0, -4, 0}, {3021, -4, 1, 0, 1, 0, 0, -4, 0}, {3102, -4, 2, -4, 1, 1, 0, -4, 0},
            {3201, -4, 2, 0, 0, -4, 1, -4, 0}, {3210, -4, 3, -4, 2, -4, 1, -4, 0}};
        expect(x, lines);
        due("reading(1230)", x.reading(1230), 3);
        due("reading(1203)", x.reading(1203), 2);
        due("reading(312)", x.reading(312), 0);
        due("reading(231)", x.reading(231), 1);
        due("reading(13210)", x.reading(13210), BAD);
        x = told("one dog that likes no man sees every dog that likes some man;");
        due("two hosts: readings", x.rule(3), 14);
        due("reading(1032): both out", x.within(x.reading(1032), 3), NONE);
        due("reading(1032): ahead of the other host", x.ahead(x.reading(1032), 3), 2);
        due("reading(312): out over the other", x.ahead(x.reading(312), 3), 1);
        due("reading(312): within", x.within(x.reading(312), 1), 0);
    }

    private static void wrongReadings() {
        ScopedPhrases x = told("one dog that likes no man sees every dog;");
        for (int r : new int[] {-1, 5, 6, 23, 24, MIN, MAX}) {
            due("within(" + r + ", 0)", x.within(r, 0), BAD);
            due("ahead(" + r + ", 0)", x.ahead(r, 0), BAD);
            due("row(" + r + ", 0)", x.row(r, 0), BAD);
            due("holds(" + r + ")", x.holds(r), BAD);
            due("small(" + r + ", 0)", x.small(r, 0), BAD);
            due("many(" + r + ")", x.many(r), BAD);
            due("alike(" + r + ")", x.alike(r), BAD);
            due("entails(" + r + ", 0)", x.entails(r, 0), BAD);
            due("entails(0, " + r + ")", x.entails(0, r), BAD);
            due("witness(" + r + ", 0)", x.witness(r, 0), BAD);
            due("witness(0, " + r + ")", x.witness(0, r), BAD);
        }
        for (int p : new int[] {-1, 3, 4, MIN, MAX}) {
            due("within(0, " + p + ")", x.within(0, p), BAD);
            due("ahead(0, " + p + ")", x.ahead(0, p), BAD);
            due("row(0, " + p + ")", x.row(0, p), BAD);
        }
        for (int w : new int[] {-1, 4128, MIN, MAX}) {
            due("small(0, " + w + ")", x.small(0, w), BAD);
        }
        for (int what : new int[] {-1, 2, MIN, MAX}) {
            due("most(" + what + ")", x.most(what), BAD);
        }
        due("a refused witness leaves the world", x.rule(5), 1);
    }

    /** The five READINGS as formulas written out by hand. */
    private static boolean formula(int r, boolean[][] is, boolean[][][] does) {
        int n = is[0].length;
        boolean[] man = is[0];
        boolean[] dog = is[1];
        boolean[][] sees = does[0];
        boolean[][] likes = does[1];
        boolean all = true;
        boolean any = false;
        switch (r) {
            case 0: // each man who sees some dog likes no man
                for (int x = 0; x < n; x++) {
                    boolean seesDog = false;
                    boolean likesMan = false;
                    for (int y = 0; y < n; y++) {
                        seesDog |= dog[y] && sees[x][y];
                        likesMan |= man[y] && likes[x][y];
                    }
                    all &= !(man[x] && seesDog && likesMan);
                }
                return all;
            case 1: // there is a dog such that each man who sees it likes no man
                for (int y = 0; y < n; y++) {
                    all = true;
                    for (int x = 0; x < n; x++) {
                        boolean likesMan = false;
                        for (int z = 0; z < n; z++) {
                            likesMan |= man[z] && likes[x][z];
                        }
                        all &= !(man[x] && sees[x][y] && likesMan);
                    }
                    any |= dog[y] && all;
                }
                return any;
            case 2: // there is a dog such that no man is liked by each man who sees it
                for (int y = 0; y < n; y++) {
                    boolean one = false;
                    for (int z = 0; z < n; z++) {
                        all = true;
                        for (int x = 0; x < n; x++) {
                            all &= !(man[x] && sees[x][y]) || likes[x][z];
                        }
                        one |= man[z] && all;
                    }
                    any |= dog[y] && !one;
                }
                return any;
            case 3: // no man is liked by each man who sees some dog
                for (int z = 0; z < n; z++) {
                    all = true;
                    for (int x = 0; x < n; x++) {
                        boolean seesDog = false;
                        for (int y = 0; y < n; y++) {
                            seesDog |= dog[y] && sees[x][y];
                        }
                        all &= !(man[x] && seesDog) || likes[x][z];
                    }
                    any |= man[z] && all;
                }
                return !any;
            default: // there is no man for whom there is a dog such that each man who sees it likes him
                for (int z = 0; z < n; z++) {
                    for (int y = 0; y < n; y++) {
                        all = true;
                        for (int x = 0; x < n; x++) {
                            all &= !(man[x] && sees[x][y]) || likes[x][z];
                        }
                        any |= man[z] && dog[y] && all;
                    }
                }
                return !any;
        }
    }

    private static void formulas() {
        String text = "every man that sees some dog likes no man;";
        ScopedPhrases x = told(text);
        boolean[][] holding = new boolean[5][4128];
        for (int w = 0; w < 4128; w++) {
            // an object is used for at most 512 calls
            x = w % 16 == 0 ? told(text) : x;
            int n = x.world(w);
            boolean[][] is = new boolean[2][n];
            boolean[][][] does = new boolean[2][n][n];
            for (int t = 0; t < n; t++) {
                for (int k = 0; k < 2; k++) {
                    is[k][t] = x.told(k, t, 0) == 1;
                    for (int u = 0; u < n; u++) {
                        does[k][t][u] = x.told(2 + k, t, u) == 1;
                    }
                }
            }
            for (int r = 0; r < 5; r++) {
                holding[r][w] = formula(r, is, does);
                due("holds(" + r + ") in world " + w, x.holds(r), holding[r][w] ? 1 : 0);
                due("small(" + r + ", " + w + ")", x.small(r, w), holding[r][w] ? 1 : 0);
            }
        }
        x = told(text);
        for (int a = 0; a < 5; a++) {
            int many = 0;
            for (int w = 0; w < 4128; w++) {
                many += holding[a][w] ? 1 : 0;
            }
            due("many(" + a + ")", x.many(a), many);
            for (int b = 0; b < 5; b++) {
                int only = 0;
                while (only < 4128 && !(holding[a][only] && !holding[b][only])) {
                    only++;
                }
                due("entails(" + a + ", " + b + ")", x.entails(a, b), only == 4128 ? 1 : 0);
                due("witness(" + a + ", " + b + ")", x.witness(a, b), only == 4128 ? NONE : only);
            }
        }
    }

    private static ScopedPhrases changed(String text, int code) {
        ScopedPhrases x = told(text);
        for (int p = 0; p < x.rule(0); p++) {
            x.becomes(p, 0, (code >> (2 * p)) & 3);
        }
        x.becomes(0, 2, code & 1);
        return x;
    }

    /** All quantifiers and both verbs over every structure: the counts of the class against its own worlds. */
    private static void allSentences() {
        String[] structures = {
            "one man sees one dog;", "one man that likes one dog sees one dog;", "one man sees one dog that sees one man;",
            "one man that likes one dog that likes one man sees one dog;",
            "one man that likes one dog sees one man that likes one dog;",
            "one man sees one dog that sees one man that likes one dog;"};
        int[] readings = {2, 5, 5, 14, 14, 14};
        for (int s = 0; s < structures.length; s++) {
            ScopedPhrases x = told(structures[s]);
            due("readings of '" + structures[s] + "'", x.rule(3), readings[s]);
            for (int code = 0; code < 256; code += 7) {
                int r = code % readings[s];
                int many = 0;
                for (int w = 0; w < 4128; w++) {
                    // an object is used for at most 512 calls
                    x = w % 400 == 0 ? changed(structures[s], code) : x;
                    many += x.small(r, w);
                }
                due("many(" + r + ") of '" + structures[s] + "' with " + code, x.many(r), many);
            }
        }
    }

    private static void weakestAndStrongest() {
        ScopedPhrases x = new ScopedPhrases();
        due("every, some: all entail", x.most(0), 0);
        due("every, some: entails all", x.most(1), 1);
        due("alike(1)", x.alike(1), 1);
        x.becomes(0, 0, 1);
        due("some, some: all entail", x.most(0), 0);
        due("some, some: entails all", x.most(1), 0);
        due("alike(1)", x.alike(1), 0);
        due("alike(0)", x.alike(0), 0);
        due("unlike", x.rule(4), 1);
        x.becomes(1, 0, 0);
        due("some, every: all entail", x.most(0), 1);
        due("some, every: entails all", x.most(1), 0);
        due("unlike", x.rule(4), 2);
        x = told("every man that sees some dog likes no man;");
        due("none that all entail", x.most(0), NONE);
        due("none that entails all", x.most(1), NONE);
        x = told("some man that sees some dog likes some man that likes some man;");
        due("all alike", x.rule(4), 1);
        for (int r = 0; r < 14; r++) {
            due("alike(" + r + ")", x.alike(r), 0);
        }
    }

    private static void witness() {
        ScopedPhrases x = new ScopedPhrases();
        x.things(3);
        x.is(0, 2, 1);
        due("witness(1, 0)", x.witness(1, 0), NONE);
        due("witness(0, 0)", x.witness(0, 0), NONE);
        due("NONE: the world stays", x.rule(5), 3);
        due("NONE: its facts stay", x.told(0, 2, 0), 1);
        due("witness(0, 1)", x.witness(0, 1), 0);
        due("the world is small", x.rule(5), 1);
        // just one dog is seen by every man, but one of the men sees two: that takes two THINGS
        x = told("every man sees one dog;");
        int w = x.witness(1, 0);
        due("the world has two things", x.rule(5), 2);
        due("a holds", x.holds(1), 1);
        due("b does not", x.holds(0), 0);
        due("small a", x.small(1, w), 1);
        due("small b", x.small(0, w), 0);
        for (int v = 0; v < w; v++) {
            CHECK.that("no lesser one: " + v, x.small(1, v) == 0 || x.small(0, v) == 1);
        }
    }

    private static void worldsOfFour() {
        ScopedPhrases x = told("one man that sees every dog likes no man that likes some dog;");
        // things 0 and 1 are men, 2 and 3 dogs; man 0 sees both dogs, man 1 one of them and likes it
        x.things(4);
        x.is(0, 0, 1);
        x.is(0, 1, 1);
        x.is(1, 2, 1);
        x.is(1, 3, 1);
        x.does(0, 0, 2, 1);
        x.does(0, 0, 3, 1);
        x.does(0, 1, 3, 1);
        x.does(1, 1, 3, 1);
        due("just man 0 sees every dog, and likes no such man", x.holds(0), 1);
        x.does(1, 0, 1, 1);
        due("he likes man 1, who likes a dog", x.holds(0), 0);
        x.does(1, 1, 3, 0);
        due("who likes no dog now", x.holds(0), 1);
        x.does(0, 1, 2, 1);
        due("two men now see every dog", x.holds(0), 0);
        x.does(1, 1, 2, 1);
        x.does(1, 1, 1, 0);
        x.does(1, 0, 1, 1);
        due("but one of them likes a man who likes a dog", x.holds(0), 1);
    }
}
