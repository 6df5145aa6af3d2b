/** Boundary cases of the world: promises 21 to 25, each sentence of the document with a test of its own. */
public final class EdgeWorldTest {
    private static final Check CHECK = new Check("EdgeWorldTest");
    private static final int MIN = Integer.MIN_VALUE, MAX = Integer.MAX_VALUE;
    private static final int BAD = ScopedPhrases.BAD;

    public static void main(String[] args) {
        worldNoSuch();
        worldLeastAndMost();
        worldInPlaceOfWhatWas();
        thingsTooFewOrMany();
        thingsLeastAndMost();
        thingsAreNothing();
        isNoSuchNoun();
        isNoSuchThing();
        isNeitherOneNorZero();
        isWhatWas();
        doesNoSuchVerb();
        doesNoSuchThing();
        doesNeitherOneNorZero();
        doesWhatWas();
        doesOneWay();
        toldNoSuch();
        toldNoSuchThing();
        toldNounAsksNoOther();
        toldVerbAsksTheOther();
        CHECK.close();
    }

    private static void due(String call, long got, long want) {
        CHECK.due(call, got, want);
    }

    private static String figures(char c, int n) {
        return String.valueOf(c).repeat(2 * n + 2 * n * n);
    }

    /** A world of n things that are all and do all. */
    private static ScopedPhrases full(int n) {
        ScopedPhrases x = new ScopedPhrases();
        x.things(n);
        for (int t = 0; t < n; t++) {
            for (int k = 0; k < 2; k++) {
                x.is(k, t, 1);
                for (int u = 0; u < n; u++) {
                    x.does(k, t, u, 1);
                }
            }
        }
        CHECK.same("a full world of " + n, Check.tables(x), figures('1', n));
        return x;
    }

    private static int[] noThing(int n) {
        return new int[] {-1, MIN, n, n + 1, 4, 5, MAX};
    }

    // ---- promise 21

    private static void worldNoSuch() {
        CHECK.of("promise 21: THE WORLD becomes a SMALL WORLD .. BAD");
        ScopedPhrases x = full(3);
        for (int w : new int[] {-1, -32, MIN, 4128, 4129, 4160, MAX}) {
            due("world(" + w + ")", x.world(w), BAD);
            CHECK.same("the world stays", Check.tables(x), figures('1', 3));
        }
    }

    private static void worldLeastAndMost() {
        CHECK.of("promise 21: a SMALL WORLD: THINGS (numbers 0, 31, 32, 4127)");
        int[] numbers = {0, 1, 15, 16, 31, 32, 33, 4126, 4127};
        int[] things = {1, 1, 1, 1, 1, 2, 2, 2, 2};
        String[] tables = {
            "0000", "1000", "1111", "0000", "1111", "000000000000", "100000000000", "011111111111", "111111111111"};
        ScopedPhrases x = new ScopedPhrases();
        for (int i = 0; i < numbers.length; i++) {
            due("world(" + numbers[i] + ")", x.world(numbers[i]), things[i]);
            due("things", x.rule(5), things[i]);
            CHECK.same("world(" + numbers[i] + ")", Check.tables(x), tables[i]);
        }
    }

    private static void worldInPlaceOfWhatWas() {
        CHECK.of("promise 21: THE WORLD becomes (in place of what it was)");
        ScopedPhrases x = full(4);
        due("world(0)", x.world(0), 1);
        CHECK.same("world(0)", Check.tables(x), "0000");
        due("thing 1", x.told(0, 1, 0), BAD);
        due("world(32)", x.world(32), 2);
        CHECK.same("world(32)", Check.tables(x), "000000000000");
        due("thing 2", x.told(0, 2, 0), BAD);
        // what is changed by hand stays out of the SMALL WORLD
        x.is(0, 0, 1);
        due("world(32) again", x.world(32), 2);
        CHECK.same("world(32) again", Check.tables(x), "000000000000");
    }

    // ---- promise 22

    private static void thingsTooFewOrMany() {
        CHECK.of("promise 22: n THINGS (1 to 4) .. BAD");
        ScopedPhrases x = full(2);
        for (int n : new int[] {0, -1, MIN, 5, 6, MAX}) {
            due("things(" + n + ")", x.things(n), BAD);
            CHECK.same("the world stays", Check.tables(x), figures('1', 2));
        }
    }

    private static void thingsLeastAndMost() {
        CHECK.of("promise 22: how many it had");
        ScopedPhrases x = new ScopedPhrases();
        int had = 1;
        for (int n : new int[] {1, 4, 4, 1, 2, 3, 2, 4, 3, 1}) {
            due("things(" + n + ")", x.things(n), had);
            due("rule(5)", x.rule(5), n);
            had = n;
        }
        x.world(4127);
        due("had two", x.things(1), 2);
    }

    private static void thingsAreNothing() {
        CHECK.of("promise 22: that are nothing and do nothing");
        for (int before = 1; before <= 4; before++) {
            for (int n = 1; n <= 4; n++) {
                ScopedPhrases x = full(before);
                due("things(" + n + ") of " + before, x.things(n), before);
                CHECK.same("they are nothing", Check.tables(x), figures('0', n));
            }
        }
    }

    // ---- promise 23

    private static void isNoSuchNoun() {
        CHECK.of("promise 23: A THING is a NOUN .. BAD (no such NOUN)");
        ScopedPhrases x = full(2);
        for (int noun : new int[] {-1, MIN, 2, 3, MAX}) {
            due("is(" + noun + ", 0, 0)", x.is(noun, 0, 0), BAD);
            CHECK.same("the world stays", Check.tables(x), figures('1', 2));
        }
    }

    private static void isNoSuchThing() {
        CHECK.of("promise 23: A THING of THE WORLD .. BAD");
        for (int n = 1; n <= 4; n++) {
            ScopedPhrases x = full(n);
            for (int t : noThing(n)) {
                due("is(0, " + t + ", 0) of " + n, x.is(0, t, 0), BAD);
                due("is(1, " + t + ", 0) of " + n, x.is(1, t, 0), BAD);
            }
            CHECK.same("the world stays", Check.tables(x), figures('1', n));
            due("the last one is", x.is(1, n - 1, 0), 1);
        }
    }

    private static void isNeitherOneNorZero() {
        CHECK.of("promise 23: (v 1) or not (0) .. BAD");
        ScopedPhrases x = new ScopedPhrases();
        for (int v : new int[] {-1, MIN, 2, 3, MAX}) {
            due("is(0, 0, " + v + ")", x.is(0, 0, v), BAD);
            due("told(0, 0, 0)", x.told(0, 0, 0), 0);
        }
        x.is(0, 0, 1);
        for (int v : new int[] {-1, MIN, 2, 3, MAX}) {
            due("is(0, 0, " + v + ")", x.is(0, 0, v), BAD);
            due("told(0, 0, 0)", x.told(0, 0, 0), 1);
        }
    }

    private static void isWhatWas() {
        CHECK.of("promise 23: what was (1, 0)");
        for (int n = 1; n <= 4; n++) {
            for (int noun = 0; noun < 2; noun++) {
                for (int t = 0; t < n; t++) {
                    ScopedPhrases x = new ScopedPhrases();
                    x.things(n);
                    due("0 to 0", x.is(noun, t, 0), 0);
                    due("0 to 1", x.is(noun, t, 1), 0);
                    due("1 to 1", x.is(noun, t, 1), 1);
                    StringBuilder only = new StringBuilder(figures('0', n));
                    only.setCharAt(noun * n + t, '1');
                    CHECK.same("only that one", Check.tables(x), only.toString());
                    due("1 to 0", x.is(noun, t, 0), 1);
                    CHECK.same("none", Check.tables(x), figures('0', n));
                }
            }
        }
    }

    // ---- promise 24

    private static void doesNoSuchVerb() {
        CHECK.of("promise 24: does a VERB .. BAD (no such VERB)");
        ScopedPhrases x = full(2);
        for (int verb : new int[] {-1, MIN, 2, 3, MAX}) {
            due("does(" + verb + ", 0, 0, 0)", x.does(verb, 0, 0, 0), BAD);
            CHECK.same("the world stays", Check.tables(x), figures('1', 2));
        }
    }

    private static void doesNoSuchThing() {
        CHECK.of("promise 24: THING t of THE WORLD .. to u .. BAD");
        for (int n = 1; n <= 4; n++) {
            ScopedPhrases x = full(n);
            for (int t : noThing(n)) {
                due("does(0, " + t + ", 0, 0) of " + n, x.does(0, t, 0, 0), BAD);
                due("does(1, 0, " + t + ", 0) of " + n, x.does(1, 0, t, 0), BAD);
                due("does(1, " + t + ", " + t + ", 0) of " + n, x.does(1, t, t, 0), BAD);
            }
            CHECK.same("the world stays", Check.tables(x), figures('1', n));
            due("the last one does to the last one", x.does(1, n - 1, n - 1, 0), 1);
        }
    }

    private static void doesNeitherOneNorZero() {
        CHECK.of("promise 24: (v 1) or not (0) .. BAD");
        ScopedPhrases x = new ScopedPhrases();
        for (int v : new int[] {-1, MIN, 2, 3, MAX}) {
            due("does(0, 0, 0, " + v + ")", x.does(0, 0, 0, v), BAD);
            due("told(2, 0, 0)", x.told(2, 0, 0), 0);
        }
        x.does(0, 0, 0, 1);
        for (int v : new int[] {-1, MIN, 2, 3, MAX}) {
            due("does(0, 0, 0, " + v + ")", x.does(0, 0, 0, v), BAD);
            due("told(2, 0, 0)", x.told(2, 0, 0), 1);
        }
    }

    private static void doesWhatWas() {
        CHECK.of("promise 24: what was (1, 0)");
        for (int n = 1; n <= 4; n++) {
            for (int i = 0; i < 2 * n * n; i++) {
                int verb = i / (n * n);
                int t = i / n % n;
                int u = i % n;
                ScopedPhrases x = new ScopedPhrases();
                x.things(n);
                due("0 to 0", x.does(verb, t, u, 0), 0);
                due("0 to 1", x.does(verb, t, u, 1), 0);
                due("1 to 1", x.does(verb, t, u, 1), 1);
                StringBuilder only = new StringBuilder(figures('0', n));
                only.setCharAt(2 * n + i, '1');
                CHECK.same("only that one", Check.tables(x), only.toString());
                due("1 to 0", x.does(verb, t, u, 0), 1);
                CHECK.same("none", Check.tables(x), figures('0', n));
            }
        }
    }

    private static void doesOneWay() {
        CHECK.of("promise 24: THING t does a VERB to u (not u to t)");
        ScopedPhrases x = new ScopedPhrases();
        x.things(2);
        x.does(0, 0, 1, 1);
        due("0 to 1", x.told(2, 0, 1), 1);
        due("1 to 0", x.told(2, 1, 0), 0);
        due("1 to 0 was not", x.does(0, 1, 0, 1), 0);
    }

    // ---- promise 25

    private static void toldNoSuch() {
        CHECK.of("promise 25: (what 0, 1) .. (2, 3) .. BAD");
        ScopedPhrases x = full(1);
        for (int what : new int[] {-1, MIN, 4, 5, MAX}) {
            due("told(" + what + ", 0, 0)", x.told(what, 0, 0), BAD);
        }
    }

    private static void toldNoSuchThing() {
        CHECK.of("promise 25: Whether THING t .. BAD");
        for (int n = 1; n <= 4; n++) {
            ScopedPhrases x = full(n);
            for (int t : noThing(n)) {
                for (int what = 0; what < 4; what++) {
                    due("told(" + what + ", " + t + ", 0) of " + n, x.told(what, t, 0), BAD);
                }
            }
            for (int what = 0; what < 4; what++) {
                due("told(" + what + ", last, last) of " + n, x.told(what, n - 1, n - 1), 1);
            }
        }
    }

    private static void toldNounAsksNoOther() {
        CHECK.of("promise 25: is a NOUN (what 0, 1; u is not asked)");
        ScopedPhrases x = new ScopedPhrases();
        x.is(1, 0, 1);
        for (int u : new int[] {0, 1, 4, -1, MIN, MAX}) {
            due("told(0, 0, " + u + ")", x.told(0, 0, u), 0);
            due("told(1, 0, " + u + ")", x.told(1, 0, u), 1);
        }
    }

    private static void toldVerbAsksTheOther() {
        CHECK.of("promise 25: does VERB what less 2 to u (2, 3) (1, 0) .. BAD");
        for (int n = 1; n <= 4; n++) {
            ScopedPhrases x = full(n);
            for (int u : noThing(n)) {
                due("told(2, 0, " + u + ") of " + n, x.told(2, 0, u), BAD);
                due("told(3, 0, " + u + ") of " + n, x.told(3, 0, u), BAD);
            }
            x.does(0, 0, n - 1, 0);
            due("told(2, 0, last)", x.told(2, 0, n - 1), 0);
            due("told(3, 0, last)", x.told(3, 0, n - 1), 1);
        }
    }
}
