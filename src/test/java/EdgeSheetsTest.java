/** Boundary cases of images and sheets: promises 26 to 31, each sentence of the document with a test of its own. */
public final class EdgeSheetsTest {
    private static final Check CHECK = new Check("EdgeSheetsTest");
    private static final int MIN = Integer.MIN_VALUE, MAX = Integer.MAX_VALUE;
    private static final int BAD = ScopedPhrases.BAD, STATE = ScopedPhrases.STATE, NONE = ScopedPhrases.NONE;
    private static final int[] NO_IMAGE = {-1, MIN, 2, 3, MAX};
    private static final int[] NO_SHEET = {-1, MIN, 4, 5, MAX};
    private static final int[] NO_LANE = {-1, MIN, 3, 4, MAX};
    /** How many CELLS a world of so many THINGS takes. */
    private static final int[] LENGTHS = {0, 4, 12, 24, 40};

    public static void main(String[] args) {
        keepNoSuch();
        keepWhetherThereWasOne();
        keepIsTheSentenceAndTheWorld();
        keepInPlaceOfWhatWas();
        backNoSuch();
        backOfNone();
        backLeavesTheRest();
        backOfLargerAndSmaller();
        sheetNoSuch();
        sheetNoSuchLane();
        sheetTooLarge();
        sheetTooSmall();
        sheetLeastAndMost();
        sheetIsNew();
        layNoSuch();
        layOnNothing();
        layOutside();
        layLowestBits();
        layOneCell();
        readNoSuchSheetOrLane();
        readTooFewOrManyThings();
        readOfNothing();
        readOfAnotherLane();
        readOutside();
        readWrapsAround();
        readJustFits();
        readFaultLeavesTheWorld();
        readIsACopy();
        readLowestBits();
        countNoSuch();
        countImages();
        countBytes();
        countCells();
        CHECK.close();
    }

    private static void due(String call, long got, long want) {
        CHECK.due(call, got, want);
    }

    // ---- promise 26

    private static void keepNoSuch() {
        CHECK.of("promise 26: IMAGE k (0, 1) .. BAD");
        ScopedPhrases x = new ScopedPhrases();
        for (int k : NO_IMAGE) {
            due("keep(" + k + ")", x.keep(k), BAD);
        }
        due("none is kept", x.count(0), 0);
        due("back(0)", x.back(0), STATE);
        due("back(1)", x.back(1), STATE);
    }

    private static void keepWhetherThereWasOne() {
        CHECK.of("promise 26: whether there was one (1, 0)");
        for (int k = 0; k < 2; k++) {
            ScopedPhrases x = new ScopedPhrases();
            due("keep(" + k + ")", x.keep(k), 0);
            due("keep(" + k + ")", x.keep(k), 1);
            due("back(" + k + ")", x.back(k), 2);
            due("keep(" + k + ") behind back", x.keep(k), 1);
            due("the other one", x.keep(1 - k), 0);
            due("the other one", x.keep(1 - k), 1);
        }
    }

    private static void keepIsTheSentenceAndTheWorld() {
        CHECK.of("promise 26: IMAGE k is the SENTENCE, THE WORLD");
        ScopedPhrases x = new ScopedPhrases();
        String text = "no dog that likes one man sees every man that likes some dog;";
        Check.tell(x, text);
        x.things(4);
        x.is(1, 3, 1);
        x.does(1, 3, 3, 1);
        String tables = Check.tables(x);
        int many = x.many(13);
        due("keep(1)", x.keep(1), 0);
        CHECK.same("the sentence stays", Check.sentence(x), text);
        CHECK.same("the world stays", Check.tables(x), tables);
        x.becomes(3, 0, 0);
        x.becomes(3, 1, 0);
        x.becomes(0, 2, 1);
        x.is(1, 3, 0);
        x.does(1, 3, 3, 0);
        due("back(1)", x.back(1), 4);
        CHECK.same("changes by hand are gone", Check.sentence(x), text);
        CHECK.same("those of the world, too", Check.tables(x), tables);
        due("many", x.many(13), many);
        x.becomes(0, 0, 0);
        x.is(0, 0, 1);
        due("back(1)", x.back(1), 4);
        CHECK.same("the image is not what was brought back", Check.sentence(x), text);
        CHECK.same("nor its world", Check.tables(x), tables);
    }

    private static void keepInPlaceOfWhatWas() {
        CHECK.of("promise 26: IMAGE k is (in place of what it was; the other one stays)");
        ScopedPhrases x = new ScopedPhrases();
        x.keep(0);
        x.keep(1);
        x.draw(7);
        x.world(4127);
        due("keep(0)", x.keep(0), 1);
        due("back(1)", x.back(1), 2);
        due("things", x.rule(5), 1);
        due("back(0)", x.back(0), 4);
        due("things", x.rule(5), 2);
        CHECK.same("tables", Check.tables(x), "111111111111");
    }

    // ---- promise 27

    private static void backNoSuch() {
        CHECK.of("promise 27: BAD");
        ScopedPhrases x = new ScopedPhrases();
        for (int k : NO_IMAGE) {
            due("back(" + k + ") without images", x.back(k), BAD);
        }
        x.keep(0);
        x.keep(1);
        x.draw(7);
        for (int k : NO_IMAGE) {
            due("back(" + k + ")", x.back(k), BAD);
        }
        due("the sentence stays", x.rule(0), 4);
    }

    private static void backOfNone() {
        CHECK.of("promise 27: STATE: there is none");
        for (int k = 0; k < 2; k++) {
            ScopedPhrases x = new ScopedPhrases();
            x.draw(7);
            x.things(3);
            due("back(" + k + ")", x.back(k), STATE);
            x.keep(1 - k);
            due("back(" + k + "), the other one is kept", x.back(k), STATE);
            due("the sentence stays", x.rule(0), 4);
            due("the world stays", x.rule(5), 3);
            x.keep(k);
            due("back(" + k + ")", x.back(k), 4);
        }
    }

    private static void backLeavesTheRest() {
        CHECK.of("promise 27: Both are as IMAGE k (and nothing else)");
        ScopedPhrases x = new ScopedPhrases();
        x.keep(0);
        Check.tell(x, "?");
        Check.feed(x, "no");
        x.sheet(0, 2, 4);
        x.lay(0, 0, 1);
        x.draw(7);
        due("back(0)", x.back(0), 2);
        due("the tape", x.count(1), 2);
        due("the fault", x.fault(), 1);
        due("the sheet", x.count(2), 4);
        due("the images", x.count(0), 1);
        x.read(0, 2, 0, 1);
        CHECK.same("its cells", Check.tables(x), "1000");
    }

    private static void backOfLargerAndSmaller() {
        CHECK.of("promise 27: PHRASES (more or fewer than there were)");
        ScopedPhrases x = new ScopedPhrases();
        x.keep(0);
        x.draw(123456);
        x.things(4);
        x.keep(1);
        due("back(0)", x.back(0), 2);
        due("readings", x.rule(3), 2);
        due("one more", x.holds(2), BAD);
        due("one phrase more", x.phrase(2, 0), BAD);
        due("one thing more", x.told(0, 1, 0), BAD);
        due("many", x.many(0), 2212);
        due("back(1)", x.back(1), 4);
        due("readings", x.rule(3), 14);
        due("the last one", x.holds(13) == BAD ? 1 : 0, 0);
        due("the last thing", x.told(0, 3, 0), 0);
        due("unlike", x.rule(4), 14);
        due("back(0)", x.back(0), 2);
        due("unlike", x.rule(4), 2);
    }

    // ---- promise 28

    private static void sheetNoSuch() {
        CHECK.of("promise 28: A SHEET .. BAD (no such SHEET)");
        ScopedPhrases x = new ScopedPhrases();
        for (int k : NO_SHEET) {
            due("sheet(" + k + ", 0, 1)", x.sheet(k, 0, 1), BAD);
            due("sheet(" + k + ", 0, -1): BAD fits first", x.sheet(k, 0, -1), BAD);
        }
        for (int k = 0; k < 4; k++) {
            due("sheet " + k + " is nothing", x.lay(k, 0, 0), -11);
        }
    }

    private static void sheetNoSuchLane() {
        CHECK.of("promise 28: BYTES (lane 0), SHORTS (1), INTS (2) .. BAD");
        ScopedPhrases x = new ScopedPhrases();
        for (int lane : NO_LANE) {
            due("sheet(0, " + lane + ", 1)", x.sheet(0, lane, 1), BAD);
            due("sheet(0, " + lane + ", -1): BAD fits first", x.sheet(0, lane, -1), BAD);
        }
        due("sheet 0 is nothing", x.count(2), NONE);
    }

    private static void sheetTooLarge() {
        CHECK.of("promise 28: BAD: also n above 50");
        ScopedPhrases x = new ScopedPhrases();
        for (int k = 0; k < 4; k++) {
            for (int lane = 0; lane < 3; lane++) {
                for (int n : new int[] {51, 52, 100, MAX}) {
                    due("sheet(" + k + ", " + lane + ", " + n + ")", x.sheet(k, lane, n), BAD);
                    due("it is nothing still", x.lay(k, 0, 0), -11);
                }
            }
        }
    }

    private static void sheetTooSmall() {
        CHECK.of("promise 28: -14 (SIZE): n below 0");
        ScopedPhrases x = new ScopedPhrases();
        for (int k = 0; k < 4; k++) {
            for (int lane = 0; lane < 3; lane++) {
                for (int n : new int[] {-1, -2, -50, MIN}) {
                    due("sheet(" + k + ", " + lane + ", " + n + ")", x.sheet(k, lane, n), -14);
                    due("it is nothing still", x.lay(k, 0, 0), -11);
                }
            }
        }
        x.sheet(0, 1, 4);
        x.lay(0, 3, 1);
        due("sheet(0, 2, -1)", x.sheet(0, 2, -1), -14);
        due("its cells stay", x.count(2), 4);
        due("its lane stays", x.read(0, 1, 0, 1), 1);
        CHECK.same("their values stay", Check.tables(x), "0001");
    }

    private static void sheetLeastAndMost() {
        CHECK.of("2: with 0 to 50 CELLS");
        ScopedPhrases x = new ScopedPhrases();
        for (int lane = 0; lane < 3; lane++) {
            for (int n : new int[] {0, 1, 49, 50}) {
                due("sheet(0, " + lane + ", " + n + ")", x.sheet(0, lane, n), 1);
                due("cells", x.count(2), n);
                due("the last one", n == 0 ? 1 : x.lay(0, n - 1, 1), 1);
                due("one more", x.lay(0, n, 1), -13);
            }
        }
    }

    private static void sheetIsNew() {
        CHECK.of("promise 28: A SHEET is a new row of CELLS 0: 1");
        for (int k = 0; k < 4; k++) {
            ScopedPhrases x = new ScopedPhrases();
            due("sheet(" + k + ", 0, 50)", x.sheet(k, 0, 50), 1);
            for (int i = 0; i < 50; i++) {
                x.lay(k, i, -1);
            }
            due("sheet(" + k + ", 1, 40)", x.sheet(k, 1, 40), 1);
            due("another lane now", x.read(k, 0, 0, 4), -12);
            due("read", x.read(k, 1, 0, 4), 4);
            CHECK.same("all are 0", Check.tables(x), "0".repeat(40));
            x.lay(k, 3, 1);
            due("fewer", x.sheet(k, 1, 0), 1);
            due("as many again", x.sheet(k, 1, 40), 1);
            due("read", x.read(k, 1, 0, 4), 4);
            CHECK.same("all are 0", Check.tables(x), "0".repeat(40));
        }
    }

    // ---- promise 29

    private static void layNoSuch() {
        CHECK.of("promise 29: BAD: k");
        ScopedPhrases x = new ScopedPhrases();
        for (int k : NO_SHEET) {
            for (int i : new int[] {0, -1, 50, MIN, MAX}) {
                due("lay(" + k + ", " + i + ", 0)", x.lay(k, i, 0), BAD);
            }
        }
    }

    private static void layOnNothing() {
        CHECK.of("promise 29: -10 less the FAULT: NULL");
        ScopedPhrases x = new ScopedPhrases();
        for (int k = 0; k < 4; k++) {
            for (int i : new int[] {0, 1, -1, 50, MIN, MAX}) {
                due("lay(" + k + ", " + i + ", 1)", x.lay(k, i, 1), -11);
            }
            x.sheet(k, 0, 0);
            due("a row without cells is not nothing", x.lay(k, 0, 1), -13);
        }
    }

    private static void layOutside() {
        CHECK.of("promise 29: -10 less the FAULT: INDEX");
        for (int n : new int[] {0, 1, 4, 49, 50}) {
            for (int lane = 0; lane < 3; lane++) {
                ScopedPhrases x = new ScopedPhrases();
                x.sheet(3, lane, n);
                for (int i : new int[] {-1, MIN, n, n + 1, 50, 51, MAX}) {
                    due("lay(3, " + i + ", 1) of " + n, x.lay(3, i, 1), -13);
                }
                due("the first", x.lay(3, 0, 1), n == 0 ? -13 : 1);
                due("the last", x.lay(3, n - 1, 1), n == 0 ? -13 : 1);
            }
        }
    }

    private static void layLowestBits() {
        CHECK.of("promise 29: becomes v (its lowest bits)");
        int[] values = {
            0, 1, -1, -2, 127, 128, 129, -128, -129, 255, 256, 257, 32767, 32768, 32769, -32768, -32769, 65535, 65536,
            65537, MAX, MIN, MIN + 1, MAX - 1};
        ScopedPhrases x = new ScopedPhrases();
        for (int lane = 0; lane < 3; lane++) {
            x.sheet(0, lane, 4);
            for (int v : values) {
                due("lay(0, 2, " + v + ")", x.lay(0, 2, v), 1);
                due("read", x.read(0, lane, 0, 1), 1);
                CHECK.same("lane " + lane + ", " + v, Check.tables(x), v % 2 == 0 ? "0000" : "0010");
            }
        }
    }

    private static void layOneCell() {
        CHECK.of("promise 29: CELL i of a SHEET (and no other)");
        ScopedPhrases x = new ScopedPhrases();
        for (int k = 0; k < 4; k++) {
            x.sheet(k, 1, 12);
        }
        due("lay(2, 7, 1)", x.lay(2, 7, 1), 1);
        for (int k = 0; k < 4; k++) {
            due("read(" + k + ", ..)", x.read(k, 1, 0, 2), 2);
            CHECK.same("sheet " + k, Check.tables(x), k == 2 ? "000000010000" : "000000000000");
        }
    }

    // ---- promise 30

    private static void readNoSuchSheetOrLane() {
        CHECK.of("promise 30: BAD: k, lane");
        ScopedPhrases x = new ScopedPhrases();
        x.things(3);
        x.sheet(0, 0, 50);
        for (int k : NO_SHEET) {
            due("read(" + k + ", 0, 0, 1)", x.read(k, 0, 0, 1), BAD);
            due("read(" + k + ", 0, -1, 1)", x.read(k, 0, -1, 1), BAD);
        }
        for (int lane : NO_LANE) {
            due("read(0, " + lane + ", 0, 1)", x.read(0, lane, 0, 1), BAD);
            due("read(1, " + lane + ", 0, 1): BAD fits first", x.read(1, lane, 0, 1), BAD);
            due("read(0, " + lane + ", -1, 1): BAD fits first", x.read(0, lane, -1, 1), BAD);
        }
        due("the world stays", x.rule(5), 3);
    }

    private static void readTooFewOrManyThings() {
        CHECK.of("promise 30: n THINGS (1 to 4) .. BAD: n");
        ScopedPhrases x = new ScopedPhrases();
        x.things(3);
        x.sheet(0, 0, 50);
        for (int n : new int[] {0, -1, -4, MIN, 5, 6, 65536, 46341, MAX}) {
            due("read(0, 0, 0, " + n + ")", x.read(0, 0, 0, n), BAD);
            due("read(1, 0, 0, " + n + "): BAD fits first", x.read(1, 0, 0, n), BAD);
            due("read(0, 1, 0, " + n + "): BAD fits first", x.read(0, 1, 0, n), BAD);
            due("read(0, 0, -1, " + n + "): BAD fits first", x.read(0, 0, -1, n), BAD);
        }
        due("the world stays", x.rule(5), 3);
    }

    private static void readOfNothing() {
        CHECK.of("promise 30: -10 less the FAULT: NULL");
        ScopedPhrases x = new ScopedPhrases();
        for (int k = 0; k < 4; k++) {
            for (int lane = 0; lane < 3; lane++) {
                for (int n = 1; n <= 4; n++) {
                    for (int f : new int[] {0, -1, 50, MIN, MAX}) {
                        due("read(" + k + ", " + lane + ", " + f + ", " + n + ")", x.read(k, lane, f, n), -11);
                    }
                }
            }
        }
    }

    private static void readOfAnotherLane() {
        CHECK.of("promise 30: -10 less the FAULT: STORE");
        for (int lane = 0; lane < 3; lane++) {
            ScopedPhrases x = new ScopedPhrases();
            x.sheet(1, lane, 40);
            x.sheet(2, lane, 0);
            for (int other = 0; other < 3; other++) {
                for (int f : new int[] {0, -1, 50, MIN, MAX}) {
                    boolean same = other == lane;
                    due("read(1, " + other + ", " + f + ", 4)", x.read(1, other, f, 4), !same ? -12 : f == 0 ? 4 : -13);
                    due("read(2, " + other + ", " + f + ", 1)", x.read(2, other, f, 1), !same ? -12 : -13);
                }
            }
        }
    }

    private static void readOutside() {
        CHECK.of("promise 30: -10 less the FAULT: INDEX");
        for (int n = 1; n <= 4; n++) {
            for (int size = 0; size <= 50; size++) {
                ScopedPhrases x = new ScopedPhrases();
                x.sheet(3, 2, size);
                int fits = size - LENGTHS[n];
                due("below 0", x.read(3, 2, -1, n), -13);
                due("0 of " + size + " for " + n, x.read(3, 2, 0, n), fits >= 0 ? n : -13);
                due("one too far", x.read(3, 2, Math.max(0, fits + 1), n), -13);
                due("the last that fits", x.read(3, 2, Math.max(0, fits), n), fits >= 0 ? n : -13);
                due("the end", x.read(3, 2, size, n), -13);
            }
        }
    }

    private static void readWrapsAround() {
        CHECK.of("promise 30: CELLS from CELL f on .. INDEX (a wrap-around)");
        ScopedPhrases x = new ScopedPhrases();
        x.sheet(0, 0, 50);
        for (int n = 1; n <= 4; n++) {
            for (int back = 0; back <= 41; back++) {
                due("read(0, 0, MAX - " + back + ", " + n + ")", x.read(0, 0, MAX - back, n), -13);
            }
            for (int f : new int[] {MIN, MIN + 1, MIN + 4, MIN + 50, -LENGTHS[n], 1 - LENGTHS[n], -1}) {
                due("read(0, 0, " + f + ", " + n + ")", x.read(0, 0, f, n), -13);
            }
        }
    }

    private static void readJustFits() {
        CHECK.of("promise 30: 2 n and 2 n n CELLS of a SHEET from CELL f on .. in order as bits of SMALL WORLDS: n");
        for (int n = 1; n <= 4; n++) {
            int length = LENGTHS[n];
            for (int f : new int[] {0, 1, 50 - length}) {
                ScopedPhrases x = new ScopedPhrases();
                x.sheet(0, 1, f + length);
                StringBuilder want = new StringBuilder();
                for (int i = 0; i < f + length; i++) {
                    int v = i * i % 7 % 3 == 1 || i == f + length - 1 ? 1 : 0;
                    x.lay(0, i, v);
                    if (i >= f) {
                        want.append(v);
                    }
                }
                due("read(0, 1, " + f + ", " + n + ")", x.read(0, 1, f, n), n);
                due("things", x.rule(5), n);
                CHECK.same("tables", Check.tables(x), want.toString());
            }
        }
        ScopedPhrases x = new ScopedPhrases();
        x.sheet(0, 0, 12);
        x.lay(0, 1, 1);
        x.lay(0, 2, 1);
        x.lay(0, 6, 1);
        x.read(0, 0, 0, 2);
        due("NOUN 0 of THING 1", x.told(0, 1, 0), 1);
        due("NOUN 1 of THING 0", x.told(1, 0, 0), 1);
        due("VERB 0 of THING 1 to 0", x.told(2, 1, 0), 1);
        due("no other way", x.told(2, 0, 1), 0);
    }

    private static void readFaultLeavesTheWorld() {
        CHECK.of("promise 30: then THE WORLD stays");
        ScopedPhrases x = new ScopedPhrases();
        x.world(32 + 1365);
        String before = Check.tables(x);
        x.sheet(0, 0, 12);
        for (int i = 0; i < 12; i++) {
            x.lay(0, i, 1);
        }
        int[][] calls = {{1, 0, 0, 1, -11}, {0, 1, 0, 1, -12}, {0, 0, 9, 1, -13}, {0, 0, -1, 1, -13}, {0, 0, 0, 3, -13},
            {4, 0, 0, 1, BAD}, {0, 3, 0, 1, BAD}, {0, 0, 0, 5, BAD}, {0, 0, 0, 0, BAD}};
        for (int[] c : calls) {
            due("read(" + c[0] + ", " + c[1] + ", " + c[2] + ", " + c[3] + ")", x.read(c[0], c[1], c[2], c[3]), c[4]);
            due("things", x.rule(5), 2);
            CHECK.same("tables", Check.tables(x), before);
        }
    }

    private static void readIsACopy() {
        CHECK.of("promise 30: copied into a row of a lane");
        ScopedPhrases x = new ScopedPhrases();
        x.sheet(0, 0, 4);
        x.lay(0, 0, 1);
        due("read", x.read(0, 0, 0, 1), 1);
        x.lay(0, 0, 0);
        CHECK.same("the world is not the sheet", Check.tables(x), "1000");
        x.is(1, 0, 1);
        due("read", x.read(0, 0, 0, 1), 1);
        CHECK.same("the sheet is not the world", Check.tables(x), "0000");
        x.sheet(0, 0, 0);
        CHECK.same("nor a new one", Check.tables(x), "0000");
        due("the sheet stays", x.count(2), 0);
    }

    private static void readLowestBits() {
        CHECK.of("promise 30: lowest bits of them");
        ScopedPhrases x = new ScopedPhrases();
        for (int lane = 0; lane < 3; lane++) {
            x.sheet(0, lane, 4);
            x.lay(0, 0, 2);
            x.lay(0, 1, 3);
            x.lay(0, 2, -1);
            x.lay(0, 3, MIN);
            due("read", x.read(0, lane, 0, 1), 1);
            CHECK.same("2, 3, -1, MIN in lane " + lane, Check.tables(x), "0110");
        }
    }

    // ---- promise 31

    private static void countNoSuch() {
        CHECK.of("promise 31: BAD");
        ScopedPhrases x = new ScopedPhrases();
        for (int what : new int[] {-1, MIN, 3, 4, MAX}) {
            due("count(" + what + ")", x.count(what), BAD);
        }
    }

    private static void countImages() {
        CHECK.of("promise 31: 0 IMAGES (none, one, both)");
        ScopedPhrases x = new ScopedPhrases();
        due("none", x.count(0), 0);
        x.back(0);
        x.keep(2);
        due("refused", x.count(0), 0);
        x.keep(1);
        x.keep(1);
        due("one", x.count(0), 1);
        x.keep(0);
        due("both", x.count(0), 2);
        x.back(0);
        x.back(1);
        x.keep(0);
        due("both still", x.count(0), 2);
    }

    private static void countBytes() {
        CHECK.of("promise 31: 1 bytes on THE TAPE (empty, full)");
        ScopedPhrases x = new ScopedPhrases();
        due("empty", x.count(1), 0);
        for (int i = 1; i <= 200; i++) {
            x.feed(0);
            due("bytes", x.count(1), i);
        }
        x.feed(0);
        due("full", x.count(1), 200);
        x.end(200);
        due("full", x.count(1), 200);
        x.end(1);
        due("one", x.count(1), 1);
        x.text();
        due("empty", x.count(1), 0);
    }

    private static void countCells() {
        CHECK.of("promise 31: 2 CELLS of SHEET 0 (NONE: nothing)");
        ScopedPhrases x = new ScopedPhrases();
        for (int k = 1; k < 4; k++) {
            x.sheet(k, 0, 9);
        }
        due("nothing", x.count(2), NONE);
        x.sheet(0, 0, -1);
        x.sheet(0, 0, 51);
        due("refused", x.count(2), NONE);
        x.sheet(0, 0, 0);
        due("no cells", x.count(2), 0);
        x.sheet(0, 2, 50);
        due("fifty", x.count(2), 50);
        x.sheet(0, 2, -1);
        due("fifty still", x.count(2), 50);
        x.sheet(0, 1, 1);
        due("one", x.count(2), 1);
    }
}
