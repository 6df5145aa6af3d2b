import java.util.Random;

/** All promises: runs of 512 calls by a fixed seed, the class and the model side by side. */
public final class RandomRunsTest {
    private static final Check CHECK = new Check("RandomRunsTest");
    private static final int RUNS = 60;
    private static final int CALLS = 512;
    private static final String[] NAMES = {
        "feed", "end", "text", "fault", "rule", "phrase", "becomes", "draw", "within", "ahead", "row", "reading",
        "holds", "small", "many", "alike", "entails", "most", "witness", "world", "things", "is", "does", "told",
        "keep", "back", "sheet", "lay", "read", "count"};
    private static final int[] ODD = {
        Integer.MIN_VALUE, Integer.MIN_VALUE + 1, -1000, -1, 4, 5, 50, 51, 127, 128, 200, 4127, 4128,
        Integer.MAX_VALUE - 1, Integer.MAX_VALUE};
    private static final String[] WORDS = {
        "every", "some", "no", "one", "man", "dog", "sees", "likes", "that", ";", ".", "cat", " ", "Man", "\t"};

    private final Random random;
    private final ScopedPhrases x = new ScopedPhrases();
    private final Model y = new Model();
    private int calls = 0;
    private final int run;

    private RandomRunsTest(int run) {
        this.run = run;
        random = new Random(run);
    }

    public static void main(String[] args) {
        int runs = args.length > 0 ? Integer.parseInt(args[0]) : RUNS;
        int[] seen = new int[NAMES.length];
        for (int run = 0; run < runs; run++) {
            new RandomRunsTest(run).go(seen);
        }
        for (int i = 0; i < NAMES.length; i++) {
            CHECK.that(NAMES[i] + " was called", seen[i] > 0);
        }
        CHECK.close();
    }

    private void go(int[] seen) {
        while (calls < CALLS) {
            if (random.nextInt(25) == 0) {
                tellText();
            } else {
                int which = random.nextInt(NAMES.length);
                // long runs on one sentence, so that readings are asked in every state of what is known
                if ((which == 2 || which == 6 || which == 7 || which == 25) && random.nextInt(4) != 0) {
                    which = 8 + random.nextInt(16);
                }
                seen[which]++;
                call(which, number(), number(), number(), number());
            }
        }
    }

    private int number() {
        int kind = random.nextInt(30);
        if (kind == 0) {
            return ODD[random.nextInt(ODD.length)];
        }
        if (kind == 1) {
            return random.nextInt();
        }
        return random.nextInt(kind < 20 ? 3 : kind < 25 ? 5 : 15) - (kind == 5 ? 1 : 0);
    }

    /** A sentence, often with one word changed, left out or put in. */
    private void tellText() {
        StringBuilder text = new StringBuilder();
        if (random.nextInt(6) != 0) {
            call(1, 0, 0, 0, 0);
        }
        int hostsAhead = random.nextInt(3);
        int hostsBehind = random.nextInt(4 - hostsAhead);
        phraseText(text, hostsAhead);
        word(text, WORDS[6 + random.nextInt(2)]);
        phraseText(text, hostsBehind);
        word(text, ";");
        for (int i = 0; i < text.length() && calls < CALLS; i++) {
            call(0, text.charAt(i), 0, 0, 0);
        }
        call(2, 0, 0, 0, 0);
        call(3, 0, 0, 0, 0);
    }

    private void phraseText(StringBuilder text, int hosts) {
        word(text, WORDS[random.nextInt(4)]);
        word(text, WORDS[4 + random.nextInt(2)]);
        if (hosts > 0) {
            word(text, "that");
            word(text, WORDS[6 + random.nextInt(2)]);
            phraseText(text, hosts - 1);
        }
    }

    private void word(StringBuilder text, String word) {
        int chance = random.nextInt(60);
        if (chance == 0) {
            return;
        }
        if (chance == 1) {
            word = WORDS[random.nextInt(WORDS.length)];
        }
        boolean joined = text.length() == 0 || word.equals(";") || text.charAt(text.length() - 1) == ';';
        if (!joined || random.nextInt(10) == 0) {
            text.append(' ');
        }
        text.append(word);
        if (chance == 2) {
            text.append(' ').append(WORDS[random.nextInt(WORDS.length)]);
        }
    }

    private void call(int which, int a, int b, int c, int d) {
        if (calls >= CALLS) {
            return;
        }
        calls++;
        int got = 0;
        int want = 0;
        switch (NAMES[which]) {
            case "feed": got = x.feed(a); want = y.feed(a); break;
            case "end": got = x.end(a); want = y.end(a); break;
            case "text": got = x.text(); want = y.text(); break;
            case "fault": got = x.fault(); want = y.fault(); break;
            case "rule": got = x.rule(a); want = y.rule(a); break;
            case "phrase": got = x.phrase(a, b); want = y.phrase(a, b); break;
            case "becomes": got = x.becomes(a, b, c); want = y.becomes(a, b, c); break;
            case "draw": a = random.nextInt(); got = x.draw(a); want = y.draw(a); break;
            case "within": got = x.within(a, b); want = y.within(a, b); break;
            case "ahead": got = x.ahead(a, b); want = y.ahead(a, b); break;
            case "row": got = x.row(a, b); want = y.row(a, b); break;
            case "reading": a = figures(a); got = x.reading(a); want = y.reading(a); break;
            case "holds": got = x.holds(a); want = y.holds(a); break;
            case "small": b = smallWorld(b); got = x.small(a, b); want = y.small(a, b); break;
            case "many": got = x.many(a); want = y.many(a); break;
            case "alike": got = x.alike(a); want = y.alike(a); break;
            case "entails": got = x.entails(a, b); want = y.entails(a, b); break;
            case "most": got = x.most(a); want = y.most(a); break;
            case "witness": got = x.witness(a, b); want = y.witness(a, b); break;
            case "world": a = smallWorld(a); got = x.world(a); want = y.world(a); break;
            case "things": got = x.things(a); want = y.things(a); break;
            case "is": got = x.is(a, b, c); want = y.is(a, b, c); break;
            case "does": got = x.does(a, b, c, d); want = y.does(a, b, c, d); break;
            case "told": got = x.told(a, b, c); want = y.told(a, b, c); break;
            case "keep": got = x.keep(a); want = y.keep(a); break;
            case "back": got = x.back(a); want = y.back(a); break;
            case "sheet": c = cells(c); got = x.sheet(a, b, c); want = y.sheet(a, b, c); break;
            case "lay": b = cells(b); got = x.lay(a, b, d); want = y.lay(a, b, d); break;
            case "read": got = x.read(a, b, c, d); want = y.read(a, b, c, d); break;
            default: got = x.count(a); want = y.count(a); break;
        }
        CHECK.due("run " + run + ", call " + calls + ": " + NAMES[which] + "(" + a + ", " + b + ", " + c + ", " + d
            + ")", got, want);
    }

    private int figures(int otherwise) {
        if (random.nextInt(4) == 0) {
            return otherwise;
        }
        int[] row = {0, 1, 2, 3};
        int n = y.rule(0) + (random.nextInt(10) == 0 ? 1 : 0);
        int made = 0;
        for (int i = 0; i < n && i < 4; i++) {
            int j = i + random.nextInt(Math.min(n, 4) - i);
            int p = row[j];
            row[j] = row[i];
            row[i] = p;
            made = made * 10 + p;
        }
        return random.nextInt(10) == 0 ? made + 10000 : made;
    }

    private int smallWorld(int otherwise) {
        return random.nextInt(4) == 0 ? otherwise : random.nextInt(random.nextBoolean() ? 32 : 4128);
    }

    private int cells(int otherwise) {
        return random.nextInt(4) == 0 ? otherwise : random.nextInt(51);
    }
}
