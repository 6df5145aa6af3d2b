/**
 * What holds for every call: the first answer that fits, what is refused changes nothing, and the 512th call is as good
 * as the first.
 */
public final class EdgeRefusedTest {
    private static final Check CHECK = new Check("EdgeRefusedTest");
    private static final int MIN = Integer.MIN_VALUE, MAX = Integer.MAX_VALUE;
    private static final int BAD = ScopedPhrases.BAD, STATE = ScopedPhrases.STATE, FULL = ScopedPhrases.FULL,
        NONE = ScopedPhrases.NONE;

    /** A call with its arguments. */
    private interface Call {
        int on(ScopedPhrases x);
    }

    public static void main(String[] args) {
        firstThatFits();
        refusedText();
        refusedSentence();
        refusedReadings();
        refusedWorld();
        refusedImagesAndSheets();
        refusedOnAFullTape();
        faultyTextChangesTheTapeAlone();
        askingChangesNothing();
        lastCall();
        beyondTheLastCall();
        CHECK.close();
    }

    private static void due(String call, long got, long want) {
        CHECK.due(call, got, want);
    }

    /** An object with something in each of its parts: IMAGE 1 and SHEETS 1 and 3 are nothing. */
    private static ScopedPhrases rich() {
        ScopedPhrases x = new ScopedPhrases();
        x.draw(7);
        x.world(32 + 1365);
        x.keep(0);
        x.feed('?');
        x.text();
        x.draw(123456);
        x.things(3);
        x.is(0, 0, 1);
        x.is(1, 1, 1);
        x.is(1, 2, 1);
        x.does(0, 0, 1, 1);
        x.does(1, 2, 2, 1);
        x.does(1, 0, 2, 1);
        x.sheet(0, 1, 5);
        x.lay(0, 1, 1);
        x.lay(0, 4, -1);
        x.sheet(2, 0, 4);
        x.lay(2, 3, 77);
        Check.feed(x, "one man sees one dog;");
        return x;
    }

    /** All that can be seen of an object. It is another one behind this, within its 512 calls. */
    private static String state(ScopedPhrases x) {
        StringBuilder all = new StringBuilder();
        all.append("fault ").append(x.fault()).append(" count");
        for (int what = 0; what < 3; what++) {
            all.append(' ').append(x.count(what));
        }
        all.append(sentenceAndWorld(x)).append(" readings");
        for (int r = 0; r < x.rule(3); r++) {
            all.append(' ').append(x.holds(r)).append(' ').append(x.many(r));
            all.append(' ').append(x.within(r, 1)).append(' ').append(x.ahead(r, 1)).append(' ').append(x.row(r, 1));
        }
        for (int k = 0; k < 4; k++) {
            all.append(" sheet ").append(k);
            for (int lane = 0; lane < 3; lane++) {
                for (int f = 0; f < 3; f++) {
                    int n = x.read(k, lane, f, 1);
                    all.append(' ').append(n).append(n == 1 ? Check.tables(x) : "");
                }
            }
        }
        all.append(" text ").append(x.text()).append(' ').append(x.fault());
        all.append(sentenceAndWorld(x));
        for (int k = 0; k < 2; k++) {
            all.append(" back ").append(x.back(k)).append(sentenceAndWorld(x));
        }
        return all.toString();
    }

    private static String sentenceAndWorld(ScopedPhrases x) {
        return " '" + Check.sentence(x) + "' " + x.rule(3) + " " + Check.tables(x);
    }

    private static void changesNothing(String name, Call call, int answer) {
        ScopedPhrases x = rich();
        due(name, call.on(x), answer);
        CHECK.same("the state behind " + name, state(x), state(rich()));
    }

    private static void firstThatFits() {
        CHECK.of("terms: BAD, STATE, FULL, NONE, the first that fits");
        due("BAD", BAD, -1);
        due("STATE", STATE, -2);
        due("FULL", FULL, -3);
        due("NONE", NONE, -4);
        ScopedPhrases x = new ScopedPhrases();
        for (int i = 0; i < 200; i++) {
            x.feed(32);
        }
        due("feed: BAD ahead of FULL", x.feed(128), BAD);
        due("feed: FULL", x.feed(127), FULL);
        due("phrase: BAD ahead of NONE", x.phrase(2, 2), BAD);
        due("phrase: NONE", x.phrase(1, 2), NONE);
        due("within: BAD ahead of NONE", x.within(2, 0), BAD);
        due("within: NONE", x.within(1, 0), NONE);
        x.becomes(0, 0, 2);
        x.becomes(1, 0, 2);
        due("most: BAD ahead of NONE", x.most(2), BAD);
        due("most: NONE", x.most(1), NONE);
        due("witness: BAD ahead of NONE", x.witness(2, 2), BAD);
        due("witness: NONE", x.witness(1, 1), NONE);
        due("back: BAD ahead of STATE", x.back(2), BAD);
        due("back: STATE", x.back(1), STATE);
        due("sheet: BAD ahead of SIZE", x.sheet(4, 0, -1), BAD);
        due("sheet: BAD ahead of SIZE", x.sheet(0, 3, -1), BAD);
        due("sheet: SIZE", x.sheet(0, 2, -1), -14);
        due("lay: BAD ahead of NULL", x.lay(4, -1, 0), BAD);
        due("lay: NULL ahead of INDEX", x.lay(3, -1, 0), -11);
        due("read: BAD ahead of NULL", x.read(0, 0, 0, 5), BAD);
        due("read: NULL ahead of INDEX", x.read(0, 0, -1, 4), -11);
        x.sheet(0, 0, 0);
        due("read: STORE ahead of INDEX", x.read(0, 1, -1, 4), -12);
        due("read: INDEX", x.read(0, 0, -1, 4), -13);
        due("count: BAD ahead of NONE", x.count(3), BAD);
    }

    private static void refusedText() {
        CHECK.of("terms: what is refused changes nothing (feed, end)");
        changesNothing("feed(-1)", x -> x.feed(-1), BAD);
        changesNothing("feed(128)", x -> x.feed(128), BAD);
        changesNothing("feed(MIN)", x -> x.feed(MIN), BAD);
        changesNothing("end(-1)", x -> x.end(-1), BAD);
        changesNothing("end(22)", x -> x.end(22), BAD);
        changesNothing("end(MAX)", x -> x.end(MAX), BAD);
        changesNothing("end(21), all it has", x -> x.end(21), 21);
    }

    private static void refusedSentence() {
        CHECK.of("terms: what is refused changes nothing (rule, phrase, becomes)");
        changesNothing("rule(-1)", x -> x.rule(-1), BAD);
        changesNothing("rule(6)", x -> x.rule(6), BAD);
        changesNothing("phrase(4, 0)", x -> x.phrase(4, 0), BAD);
        changesNothing("phrase(0, 6)", x -> x.phrase(0, 6), BAD);
        int[][] wrong = {
            {-1, 0, 0}, {4, 0, 0}, {-1, 1, 0}, {4, 1, 1}, {0, -1, 0}, {0, 3, 0}, {0, 3, 1}, {0, 0, -1}, {0, 0, 4},
            {3, 0, 4}, {0, 1, -1}, {0, 1, 2}, {3, 1, 2}, {0, 2, -1}, {0, 2, 2}, {0, 2, 3}, {MIN, 0, 0}, {0, 0, MAX}};
        for (int[] w : wrong) {
            changesNothing("becomes(" + w[0] + ", " + w[1] + ", " + w[2] + ")",
                x -> x.becomes(w[0], w[1], w[2]), BAD);
        }
    }

    private static void refusedReadings() {
        CHECK.of("terms: what is refused changes nothing (within .. witness)");
        for (int r : new int[] {-1, 14, MIN, MAX}) {
            changesNothing("within(" + r + ", 0)", x -> x.within(r, 0), BAD);
            changesNothing("ahead(" + r + ", 0)", x -> x.ahead(r, 0), BAD);
            changesNothing("row(" + r + ", 0)", x -> x.row(r, 0), BAD);
            changesNothing("holds(" + r + ")", x -> x.holds(r), BAD);
            changesNothing("small(" + r + ", 0)", x -> x.small(r, 0), BAD);
            changesNothing("many(" + r + ")", x -> x.many(r), BAD);
            changesNothing("alike(" + r + ")", x -> x.alike(r), BAD);
            changesNothing("entails(" + r + ", 0)", x -> x.entails(r, 0), BAD);
            changesNothing("entails(0, " + r + ")", x -> x.entails(0, r), BAD);
            changesNothing("witness(" + r + ", 0)", x -> x.witness(r, 0), BAD);
            changesNothing("witness(0, " + r + ")", x -> x.witness(0, r), BAD);
        }
        for (int w : new int[] {-1, 4128, MIN, MAX}) {
            changesNothing("small(0, " + w + ")", x -> x.small(0, w), BAD);
        }
        for (int figures : new int[] {-1, 0, 1, 12, 122, 1234, 3211, 13210, MIN, MAX}) {
            changesNothing("reading(" + figures + ")", x -> x.reading(figures), BAD);
        }
        changesNothing("most(-1)", x -> x.most(-1), BAD);
        changesNothing("most(2)", x -> x.most(2), BAD);
        changesNothing("witness(5, 5)", x -> x.witness(5, 5), NONE);
    }

    private static void refusedWorld() {
        CHECK.of("terms: what is refused changes nothing (world .. told)");
        changesNothing("world(-1)", x -> x.world(-1), BAD);
        changesNothing("world(4128)", x -> x.world(4128), BAD);
        changesNothing("things(0)", x -> x.things(0), BAD);
        changesNothing("things(5)", x -> x.things(5), BAD);
        int[][] is = {{-1, 0}, {2, 0}, {0, -1}, {0, 3}, {1, 4}, {MIN, 0}, {0, MAX}};
        for (int v = 0; v < 2; v++) {
            int given = v;
            for (int[] w : is) {
                changesNothing("is(" + w[0] + ", " + w[1] + ", " + v + ")", x -> x.is(w[0], w[1], given), BAD);
                changesNothing("does(" + w[0] + ", " + w[1] + ", 0, " + v + ")",
                    x -> x.does(w[0], w[1], 0, given), BAD);
                changesNothing("does(0, 0, -1 or 3, " + v + ")", x -> x.does(0, 0, given * 4 - 1, given), BAD);
            }
        }
        for (int v : new int[] {-1, 2, MIN, MAX}) {
            for (int t = 0; t < 3; t++) {
                int thing = t;
                changesNothing("is(0, " + t + ", " + v + ")", x -> x.is(0, thing, v), BAD);
                changesNothing("does(1, 2, " + t + ", " + v + ")", x -> x.does(1, 2, thing, v), BAD);
            }
        }
        changesNothing("told(4, 0, 0)", x -> x.told(4, 0, 0), BAD);
        changesNothing("told(0, 3, 0)", x -> x.told(0, 3, 0), BAD);
        changesNothing("told(3, 0, 3)", x -> x.told(3, 0, 3), BAD);
    }

    private static void refusedImagesAndSheets() {
        CHECK.of("terms: what is refused changes nothing (keep .. count)");
        changesNothing("keep(-1)", x -> x.keep(-1), BAD);
        changesNothing("keep(2)", x -> x.keep(2), BAD);
        changesNothing("back(-1)", x -> x.back(-1), BAD);
        changesNothing("back(2)", x -> x.back(2), BAD);
        changesNothing("back(1)", x -> x.back(1), STATE);
        int[][] sheets = {
            {-1, 0, 1, BAD}, {4, 0, 1, BAD}, {0, -1, 1, BAD}, {0, 3, 1, BAD}, {0, 0, 51, BAD}, {2, 1, 51, BAD},
            {0, 0, -1, -14}, {2, 2, MIN, -14}, {1, 0, -1, -14}, {1, 0, 51, BAD}, {3, 1, MAX, BAD}};
        for (int[] w : sheets) {
            changesNothing("sheet(" + w[0] + ", " + w[1] + ", " + w[2] + ")", x -> x.sheet(w[0], w[1], w[2]), w[3]);
        }
        int[][] lays = {
            {-1, 0, BAD}, {4, 0, BAD}, {1, 0, -11}, {3, -1, -11}, {0, -1, -13}, {0, 5, -13}, {2, 4, -13}, {2, MAX, -13}};
        for (int[] w : lays) {
            changesNothing("lay(" + w[0] + ", " + w[1] + ", 1)", x -> x.lay(w[0], w[1], 1), w[2]);
        }
        int[][] reads = {
            {-1, 1, 0, 1, BAD}, {4, 1, 0, 1, BAD}, {0, -1, 0, 1, BAD}, {0, 3, 0, 1, BAD}, {0, 1, 0, 0, BAD},
            {0, 1, 0, 5, BAD}, {1, 0, 0, 1, -11}, {0, 0, 0, 1, -12}, {0, 2, 0, 1, -12}, {0, 1, -1, 1, -13},
            {0, 1, 2, 1, -13}, {0, 1, 0, 2, -13}, {2, 0, 1, 1, -13}};
        for (int[] w : reads) {
            changesNothing("read(" + w[0] + ", " + w[1] + ", " + w[2] + ", " + w[3] + ")",
                x -> x.read(w[0], w[1], w[2], w[3]), w[4]);
        }
        changesNothing("count(-1)", x -> x.count(-1), BAD);
        changesNothing("count(3)", x -> x.count(3), BAD);
    }

    private static void refusedOnAFullTape() {
        CHECK.of("terms: what is refused changes nothing (FULL)");
        String[] states = new String[2];
        for (int i = 0; i < 2; i++) {
            ScopedPhrases x = new ScopedPhrases();
            Check.feed(x, "some dog likes no man;");
            for (int j = 22; j < 200; j++) {
                x.feed(32);
            }
            if (i == 1) {
                due("feed('?')", x.feed('?'), FULL);
                due("feed(';')", x.feed(';'), FULL);
            }
            states[i] = state(x);
        }
        CHECK.same("the state", states[1], states[0]);
    }

    private static void faultyTextChangesTheTapeAlone() {
        CHECK.of("terms: (but THE TAPE, as told)");
        String[] texts = {
            "one man sees one dog", "one man sees one dog; x", "one man sees one dog;.",
            "no dog that sees no dog that sees no dog that sees no dog sees", "one man that likes one dog likes"};
        int[] places = {20, 22, 21, 62, 32};
        for (int i = 0; i < texts.length; i++) {
            String[] states = new String[2];
            for (int j = 0; j < 2; j++) {
                ScopedPhrases x = rich();
                x.end(0);
                if (j == 1) {
                    Check.feed(x, texts[i]);
                    due("text of '" + texts[i] + "'", x.text(), -10 - places[i]);
                }
                due("the tape is empty", x.count(1), 0);
                states[j] = state(x).replaceFirst("fault [0-9]", "");
            }
            CHECK.same("the state but for the fault", states[1], states[0]);
        }
    }

    private static void askingChangesNothing() {
        CHECK.of("terms: what only asks changes nothing");
        Call[] calls = {
            x -> x.fault(), x -> x.rule(0), x -> x.rule(3), x -> x.rule(4), x -> x.phrase(3, 5), x -> x.within(5, 3),
            x -> x.ahead(5, 3), x -> x.row(5, 3), x -> x.reading(3210), x -> x.reading(123), x -> x.holds(13),
            x -> x.small(0, 0), x -> x.small(13, 4127), x -> x.many(7), x -> x.alike(13), x -> x.entails(13, 0),
            x -> x.most(0), x -> x.most(1), x -> x.told(0, 2, 0), x -> x.told(3, 2, 2), x -> x.count(0),
            x -> x.count(1), x -> x.count(2)};
        String before = state(rich());
        for (int i = 0; i < calls.length; i++) {
            ScopedPhrases x = rich();
            int first = calls[i].on(x);
            due("asked again, call " + i, calls[i].on(x), first);
            CHECK.same("the state behind call " + i, state(x), before);
        }
    }

    private static void lastCall() {
        CHECK.of("at most 512 calls after it has been made");
        ScopedPhrases x = new ScopedPhrases();
        Check.feed(x, "every man that sees some dog likes no man;");
        x.text();
        for (int i = 43; i < 511; i++) {
            x.becomes(i % 3, 0, i % 2 == 0 ? 1 : 3);
        }
        ScopedPhrases y = new ScopedPhrases();
        Check.tell(y, "some man that sees some dog likes one man;");
        due("the 512th call", x.many(2), y.many(2));
        // the dearest call each time, on a sentence that is new each time
        x = new ScopedPhrases();
        for (int i = 0; i < 255; i++) {
            x.becomes(0, 0, i & 1);
            x.rule(4);
        }
        x.draw(123456);
        due("the 512th call", x.rule(4), 14);
    }

    private static void beyondTheLastCall() {
        CHECK.of("what later calls answer is free (but no call throws)");
        ScopedPhrases x = new ScopedPhrases();
        int[] odd = {MIN, -1, 0, 1, 2, 3, 4, 13, 14, 31, 32, 50, 51, 127, 128, 4127, 4128, MAX};
        int calls = 0;
        for (int a : odd) {
            for (int b : odd) {
                for (int c : odd) {
                    x.becomes(a, b, c);
                    x.is(a, b, c);
                    x.does(a, b, c, 1);
                    x.told(a, b, c);
                    x.sheet(a, b, c);
                    x.lay(a, b, c);
                    x.read(a, b, c, 1);
                    x.feed(a);
                    calls += 8;
                }
                x.small(a, b);
                x.witness(a, b);
                x.phrase(a, b);
                x.row(a, b);
                x.within(a, b);
                x.ahead(a, b);
                x.things(a);
                x.world(b);
                x.draw(a + b);
            }
            x.reading(a);
            x.end(a);
            x.text();
            x.most(a);
            x.keep(a);
            x.back(a);
        }
        CHECK.that("all " + calls + " came back", calls > 0);
    }
}
