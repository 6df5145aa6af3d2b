/** Promises 21 to 31: world, things, is, does, told, keep, back, sheet, lay, read, count. */
public final class WorldTest {
    private static final Check CHECK = new Check("WorldTest");
    private static final int MIN = Integer.MIN_VALUE, MAX = Integer.MAX_VALUE;
    private static final int BAD = ScopedPhrases.BAD, NONE = ScopedPhrases.NONE, STATE = ScopedPhrases.STATE;

    public static void main(String[] args) {
        world();
        things();
        is();
        does();
        told();
        images();
        imagesAreCopies();
        sheet();
        lay();
        read();
        readFaults();
        count();
        CHECK.close();
    }

    private static void due(String call, long got, long want) {
        CHECK.due(call, got, want);
    }

    private static void world() {
        ScopedPhrases x = new ScopedPhrases();
        for (int w : new int[] {-1, 4128, MIN, MAX}) {
            due("world(" + w + ")", x.world(w), BAD);
        }
        for (int w = 0; w < 32; w++) {
            due("world(" + w + ")", x.world(w), 1);
            for (int what = 0; what < 4; what++) {
                due("world " + w + " told(" + what + ")", x.told(what, 0, 0), (w >> what) & 1);
            }
        }
        for (int w = 32; w < 4128; w++) {
            // an object is used for at most 512 calls
            x = w % 32 == 0 ? new ScopedPhrases() : x;
            due("world(" + w + ")", x.world(w), 2);
            int bit = 0;
            for (int what = 0; what < 4; what++) {
                for (int t = 0; t < 2; t++) {
                    for (int u = 0; u < (what < 2 ? 1 : 2); u++) {
                        due("world " + w + " told(" + what + ", " + t + ", " + u + ")",
                            x.told(what, t, u), ((w - 32) >> bit) & 1);
                        bit++;
                    }
                }
            }
        }
        due("refused", x.world(4128), BAD);
        due("refused, it stays", x.told(0, 0, 0), 1);
    }

    private static void things() {
        ScopedPhrases x = new ScopedPhrases();
        for (int n : new int[] {0, 5, -1, MIN, MAX}) {
            due("things(" + n + ")", x.things(n), BAD);
        }
        renewed(x, 4, 3, 2, 1);
        x = new ScopedPhrases();
        renewed(x, 4, 4);
        due("refused", x.things(5), BAD);
        allFacts(x, 4, 1);
    }

    private static void renewed(ScopedPhrases x, int... sizes) {
        int had = 1;
        for (int n : sizes) {
            due("things(" + n + ")", x.things(n), had);
            due("they are", x.rule(5), n);
            had = n;
            allFacts(x, n, 0);
            setAll(x, n);
            allFacts(x, n, 1);
        }
    }

    private static void setAll(ScopedPhrases x, int n) {
        for (int t = 0; t < n; t++) {
            for (int noun = 0; noun < 2; noun++) {
                due("is", x.is(noun, t, 1), 0);
            }
            for (int u = 0; u < n; u++) {
                for (int verb = 0; verb < 2; verb++) {
                    due("does", x.does(verb, t, u, 1), 0);
                }
            }
        }
    }

    private static void allFacts(ScopedPhrases x, int n, int want) {
        for (int what = 0; what < 4; what++) {
            for (int t = 0; t < n; t++) {
                for (int u = 0; u < n; u++) {
                    due("of " + n + " told(" + what + ", " + t + ", " + u + ")", x.told(what, t, u), want);
                }
            }
        }
    }

    private static void is() {
        ScopedPhrases x = new ScopedPhrases();
        x.things(4);
        due("is(1, 3, 1)", x.is(1, 3, 1), 0);
        due("is(1, 3, 1)", x.is(1, 3, 1), 1);
        for (int noun = 0; noun < 2; noun++) {
            for (int t = 0; t < 4; t++) {
                due("only that one", x.told(noun, t, 0), noun == 1 && t == 3 ? 1 : 0);
            }
        }
        due("is(1, 3, 0)", x.is(1, 3, 0), 1);
        due("is(1, 3, 0)", x.is(1, 3, 0), 0);
        int[][] wrong = {{-1, 0, 1}, {2, 0, 1}, {0, -1, 1}, {0, 4, 1}, {0, 0, 2}, {0, 0, -1}, {MIN, 0, 0}, {0, MAX, 0}};
        for (int[] w : wrong) {
            due("is(" + w[0] + ", " + w[1] + ", " + w[2] + ")", x.is(w[0], w[1], w[2]), BAD);
        }
        allFacts(x, 4, 0);
    }

    private static void does() {
        ScopedPhrases x = new ScopedPhrases();
        x.things(4);
        due("does(1, 3, 2, 1)", x.does(1, 3, 2, 1), 0);
        due("does(1, 3, 2, 1)", x.does(1, 3, 2, 1), 1);
        for (int verb = 0; verb < 2; verb++) {
            for (int t = 0; t < 4; t++) {
                for (int u = 0; u < 4; u++) {
                    due("only that one", x.told(2 + verb, t, u), verb == 1 && t == 3 && u == 2 ? 1 : 0);
                }
            }
        }
        due("does(1, 3, 2, 0)", x.does(1, 3, 2, 0), 1);
        due("does(1, 3, 2, 0)", x.does(1, 3, 2, 0), 0);
        int[][] wrong = {
            {-1, 0, 0, 1}, {2, 0, 0, 1}, {0, -1, 0, 1}, {0, 4, 0, 1}, {0, 0, -1, 1}, {0, 0, 4, 1},
            {0, 0, 0, 2}, {0, 0, 0, -1}, {MAX, 0, 0, 0}, {0, MIN, 0, 0}, {0, 0, MAX, 0}, {0, 0, 0, MIN}};
        for (int[] w : wrong) {
            due("does(" + w[0] + ", " + w[1] + ", " + w[2] + ", " + w[3] + ")", x.does(w[0], w[1], w[2], w[3]), BAD);
        }
        allFacts(x, 4, 0);
    }

    private static void told() {
        ScopedPhrases x = new ScopedPhrases();
        x.things(2);
        x.is(0, 1, 1);
        x.does(0, 1, 0, 1);
        due("told(0, 1, 99)", x.told(0, 1, 99), 1);
        due("told(1, 1, -1)", x.told(1, 1, -1), 0);
        due("told(2, 1, 0)", x.told(2, 1, 0), 1);
        due("told(2, 0, 1)", x.told(2, 0, 1), 0);
        due("told(3, 1, 0)", x.told(3, 1, 0), 0);
        int[][] wrong = {
            {-1, 0, 0}, {4, 0, 0}, {0, 2, 0}, {0, -1, 0}, {1, 2, 0}, {2, 0, 2}, {3, 0, -1}, {3, 2, 0}, {2, MAX, 0},
            {2, 0, MIN}, {MAX, 0, 0}};
        for (int[] w : wrong) {
            due("told(" + w[0] + ", " + w[1] + ", " + w[2] + ")", x.told(w[0], w[1], w[2]), BAD);
        }
    }

    private static void images() {
        ScopedPhrases x = new ScopedPhrases();
        for (int k : new int[] {-1, 2, MIN, MAX}) {
            due("keep(" + k + ")", x.keep(k), BAD);
            due("back(" + k + ")", x.back(k), BAD);
        }
        due("back(0)", x.back(0), STATE);
        due("keep(1)", x.keep(1), 0);
        due("back(0)", x.back(0), STATE);
        due("keep(1)", x.keep(1), 1);
        due("keep(0)", x.keep(0), 0);
        due("keep(0)", x.keep(0), 1);
        due("back(0)", x.back(0), 2);
        due("back(1)", x.back(1), 2);
        due("an image stays behind back", x.keep(1), 1);
    }

    private static void imagesAreCopies() {
        ScopedPhrases x = new ScopedPhrases();
        Check.tell(x, "no dog likes one man that sees every dog;");
        x.things(3);
        x.is(1, 2, 1);
        due("keep(0)", x.keep(0), 0);
        int readings = x.rule(3);
        int many = x.many(0);
        x.becomes(0, 0, 1);
        x.becomes(0, 2, 0);
        x.is(1, 2, 0);
        x.does(1, 0, 2, 1);
        due("keep(1)", x.keep(1), 0);
        Check.tell(x, "one dog sees one dog;");
        x.many(0);
        x.world(0);
        x.sheet(0, 0, 3);
        x.feed(32);
        due("back(0)", x.back(0), 3);
        due("phrases", x.rule(0), 3);
        due("quantifier", x.phrase(0, 0), 2);
        due("host", x.phrase(2, 2), 1);
        due("its verb", x.phrase(1, 3), 0);
        due("verb", x.rule(2), 1);
        due("readings", x.rule(3), readings);
        due("many", x.many(0), many);
        due("things", x.rule(5), 3);
        due("noun", x.told(1, 2, 0), 1);
        due("does", x.told(3, 0, 2), 0);
        due("sheets stay", x.count(2), 3);
        due("the tape stays", x.count(1), 1);
        due("back(1)", x.back(1), 3);
        due("quantifier", x.phrase(0, 0), 1);
        due("verb", x.rule(2), 0);
        due("noun", x.told(1, 2, 0), 0);
        due("does", x.told(3, 0, 2), 1);
        x.becomes(0, 0, 3);
        x.is(0, 0, 1);
        due("back(1) again", x.back(1), 3);
        due("the image did not change", x.phrase(0, 0), 1);
        due("nor its world", x.told(0, 0, 0), 0);
    }

    private static void sheet() {
        ScopedPhrases x = new ScopedPhrases();
        int[][] wrong = {
            {-1, 0, 1, BAD}, {4, 0, 1, BAD}, {0, -1, 1, BAD}, {0, 3, 1, BAD}, {0, 0, 51, BAD}, {0, 0, MAX, BAD},
            {0, 0, -1, -14}, {0, 0, MIN, -14}, {3, 2, -1, -14}, {-1, 0, -1, BAD}, {4, 0, -1, BAD}, {0, 3, -1, BAD},
            {0, -1, -1, BAD}, {MAX, 0, 0, BAD}, {0, MIN, 0, BAD}};
        for (int[] w : wrong) {
            due("sheet(" + w[0] + ", " + w[1] + ", " + w[2] + ")", x.sheet(w[0], w[1], w[2]), w[3]);
        }
        due("refused: nothing", x.count(2), NONE);
        for (int lane = 0; lane < 3; lane++) {
            due("50 cells", x.sheet(0, lane, 50), 1);
            due("they are", x.count(2), 50);
            due("no cells", x.sheet(0, lane, 0), 1);
            due("they are", x.count(2), 0);
            due("cell 0 of none", x.lay(0, 0, 1), -13);
        }
        x.sheet(3, 1, 4);
        due("only that one", x.count(2), 0);
        for (int i = 0; i < 4; i++) {
            x.lay(3, i, 1);
        }
        due("refused", x.sheet(3, 1, -1), -14);
        due("refused", x.sheet(3, 1, 51), BAD);
        due("refused, it stays", x.read(3, 1, 0, 1), 1);
        allFacts(x, 1, 1);
        due("a new row", x.sheet(3, 1, 4), 1);
        due("its cells are 0", x.read(3, 1, 0, 1), 1);
        allFacts(x, 1, 0);
    }

    private static void lay() {
        ScopedPhrases x = new ScopedPhrases();
        for (int k : new int[] {-1, 4, MIN, MAX}) {
            due("lay(" + k + ", 0, 0)", x.lay(k, 0, 0), BAD);
            due("lay(" + k + ", -1, 0)", x.lay(k, -1, 0), BAD);
        }
        due("NULL ahead of INDEX", x.lay(2, -1, 0), -11);
        x.sheet(2, 0, 10);
        for (int i : new int[] {-1, 10, 49, 50, MIN, MAX}) {
            due("lay(2, " + i + ", 0)", x.lay(2, i, 1), -13);
        }
        due("lay(2, 9, MIN)", x.lay(2, 9, MIN), 1);
        for (int lane = 0; lane < 3; lane++) {
            x.sheet(1, lane, 4);
            int[] values = {255, 65536, MIN, -1};
            for (int i = 0; i < 4; i++) {
                due("lay(1, " + i + ", " + values[i] + ")", x.lay(1, i, values[i]), 1);
            }
            due("read", x.read(1, lane, 0, 1), 1);
            for (int i = 0; i < 4; i++) {
                due("the lowest bit of " + values[i], x.told(i, 0, 0), values[i] & 1);
            }
            due("lay", x.lay(1, 0, 2), 1);
            due("read", x.read(1, lane, 0, 1), 1);
            due("the last value counts", x.told(0, 0, 0), 0);
        }
    }

    private static void read() {
        for (int n = 1; n <= 4; n++) {
            for (int lane = 0; lane < 3; lane++) {
                int length = 2 * n + 2 * n * n;
                for (int f = 0; f <= 50 - length; f += 5) {
                    readOne(n, lane, f, length);
                }
            }
        }
    }

    private static void readOne(int n, int lane, int f, int length) {
        for (int only = 0; only < length; only += 3) {
            ScopedPhrases x = new ScopedPhrases();
            x.sheet(2, lane, f + length);
            x.lay(2, f + only, 77);
            due("read(2, " + lane + ", " + f + ", " + n + ")", x.read(2, lane, f, n), n);
            due("things", x.rule(5), n);
            int bit = 0;
            for (int what = 0; what < 4; what++) {
                for (int t = 0; t < n; t++) {
                    for (int u = 0; u < (what < 2 ? 1 : n); u++) {
                        due("cell " + only + " of " + n + ": told(" + what + ", " + t + ", " + u + ")",
                            x.told(what, t, u), bit == only ? 1 : 0);
                        bit++;
                    }
                }
            }
        }
    }

    private static void readFaults() {
        ScopedPhrases x = new ScopedPhrases();
        x.things(3);
        x.is(1, 1, 1);
        x.sheet(0, 1, 12);
        x.lay(0, 0, 1);
        int[][] wrong = {
            {-1, 1, 0, 1, BAD}, {4, 1, 0, 1, BAD}, {0, -1, 0, 1, BAD}, {0, 3, 0, 1, BAD}, {0, 1, 0, 0, BAD},
            {0, 1, 0, 5, BAD}, {0, 1, 0, -1, BAD}, {0, 1, 0, MIN, BAD}, {0, 1, 0, MAX, BAD}, {MIN, 1, 0, 1, BAD},
            {0, MAX, 0, 1, BAD}, {1, 3, 0, 1, BAD}, {1, 0, 0, 5, BAD}, {1, 0, 0, 1, -11}, {1, 0, -1, 1, -11},
            {0, 0, 0, 1, -12}, {0, 2, 0, 1, -12}, {0, 2, -1, 1, -12}, {0, 0, 99, 4, -12}, {0, 1, -1, 1, -13},
            {0, 1, 9, 1, -13}, {0, 1, 1, 2, -13}, {0, 1, 0, 3, -13}, {0, 1, 0, 4, -13}, {0, 1, MAX, 1, -13},
            {0, 1, MIN, 1, -13}, {0, 1, MAX, 4, -13}};
        for (int[] w : wrong) {
            due("read(" + w[0] + ", " + w[1] + ", " + w[2] + ", " + w[3] + ")",
                x.read(w[0], w[1], w[2], w[3]), w[4]);
        }
        due("the world stays", x.rule(5), 3);
        due("its facts stay", x.told(1, 1, 0), 1);
        due("its facts stay", x.told(0, 0, 0), 0);
        due("read(0, 1, 0, 2)", x.read(0, 1, 0, 2), 2);
        due("read(0, 1, 8, 1)", x.read(0, 1, 8, 1), 1);
        x.sheet(0, 2, 0);
        due("a sheet without cells", x.read(0, 2, 0, 1), -13);
    }

    private static void count() {
        ScopedPhrases x = new ScopedPhrases();
        for (int what : new int[] {-1, 3, MIN, MAX}) {
            due("count(" + what + ")", x.count(what), BAD);
        }
        due("images", x.count(0), 0);
        x.keep(1);
        x.keep(1);
        due("images", x.count(0), 1);
        x.keep(0);
        due("images", x.count(0), 2);
        x.back(0);
        due("images", x.count(0), 2);
        x.feed(65);
        x.feed(66);
        due("bytes", x.count(1), 2);
        x.sheet(1, 0, 9);
        due("sheet 0 is nothing", x.count(2), NONE);
        x.sheet(0, 0, 0);
        due("sheet 0 has no cells", x.count(2), 0);
        x.sheet(0, 2, 17);
        due("sheet 0", x.count(2), 17);
    }
}
