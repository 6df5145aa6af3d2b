/**
 * Promises 6, 10 to 14 and 16 to 20: every row of quantifiers for every shape that a sentence can have.
 *
 * The answers due come from a third program, in another language and by another session than the class and
 * Model.java. There are too many to write out: all answers of one call and one shape are told as one number, which
 * becomes 31 times itself and the next answer, in int's arithmetic, from 0 on.
 */
public final class SweepTest {
    private static final Check CHECK = new Check("SweepTest");
    private static final String[] QUANTIFIERS = {"every", "some", "no", "one"};
    private static final String[] NOUNS = {"man", "dog"};
    private static final String[] VERBS = {"sees", "likes"};

    private static final int RULE = 0, WITHIN = 1, AHEAD = 2, ROW = 3, READING = 4, MANY = 5, ALIKE = 6, ENTAILS = 7,
        MOST = 8, WITNESS = 9, HOLDS = 10;
    private static final String[] CALLS = {
        "rule", "within", "ahead", "row", "reading", "many", "alike", "entails", "most", "witness", "holds"};

    /** How many phrases the subject and the object have, those below them too; then what is due of each call. */
    private static final int[][] DUE = {
        {1, 1, -1280391619, -1319243776, 925875712, 925875712, 391430672, 1990597696, -170720179, 1983704288,
            1119205888, 517544718, -787470019},
        {1, 2, 1130318277, -1338480640, -1280134144, -1282624512, 1544697984, -211134488, 1760576249, 476722987,
            -1877453887, -1160693853, 165560970},
        {1, 3, -980059116, -1092393728, -2031541760, 1100235776, 65414656, 682499332, -1523524026, 692042843,
            -247948225, 558631167, 1980010497},
        {2, 1, -1722451901, 1712263168, 97369088, 254399488, 1226981504, -2027695239, 1811876809, 700574761,
            -1413424715, 790357921, 122425759},
        {2, 2, 351947323, 546320896, 724409344, 140501504, 141944320, 852453739, -410802472, 518272434,
            -1043117432, 813269287, 531551750},
        {3, 1, -124211521, -530081024, -940073472, -1260602368, -1121073664, 1384271063, -1265649629, -769370145,
            1045803016, 151892484, 599396377}};

    private final int subject;
    private final int phrases;
    private final int[] told = new int[CALLS.length];

    private SweepTest(int subject, int object) {
        this.subject = subject;
        phrases = subject + object;
    }

    public static void main(String[] args) {
        for (int[] due : DUE) {
            SweepTest shape = new SweepTest(due[0], due[1]);
            shape.go();
            for (int c = 0; c < CALLS.length; c++) {
                CHECK.due("shape " + due[0] + ", " + due[1] + ": all of " + CALLS[c], shape.told[c], due[2 + c]);
            }
        }
        CHECK.close();
    }

    private void go() {
        for (int i = 0; i < 1 << (2 * phrases); i++) {
            String text = chain(0, subject, i) + " " + VERBS[(i * 7 >> 1) & 1] + " " + chain(subject, phrases, i) + ";";
            alone(sentence(text));
            rows(sentence(text));
            pairs(sentence(text), sentence(text));
            largerWorlds(sentence(text), i);
        }
    }

    private String chain(int from, int to, int i) {
        StringBuilder text = new StringBuilder();
        for (int p = from; p < to; p++) {
            text.append(QUANTIFIERS[(i >> (2 * p)) & 3]).append(' ').append(NOUNS[((i * 11 >> 2) >> p) & 1]);
            if (p + 1 < to) {
                text.append(" that ").append(VERBS[((i * 13 >> 3) >> p) & 1]).append(' ');
            }
        }
        return text.toString();
    }

    /** A new object, since one is for 512 calls alone. */
    private ScopedPhrases sentence(String text) {
        ScopedPhrases x = new ScopedPhrases();
        Check.feed(x, text);
        CHECK.due("text of '" + text + "'", x.text(), phrases);
        return x;
    }

    private void tell(int call, int answer) {
        told[call] = told[call] * 31 + answer;
    }

    private void alone(ScopedPhrases x) {
        tell(RULE, x.rule(3));
        tell(RULE, x.rule(4));
        tell(MOST, x.most(0));
        tell(MOST, x.most(1));
        for (int r = 0; r < x.rule(3); r++) {
            tell(MANY, x.many(r));
            tell(ALIKE, x.alike(r));
            for (int p = 0; p < phrases; p++) {
                tell(WITHIN, x.within(r, p));
                tell(AHEAD, x.ahead(r, p));
                tell(ROW, x.row(r, p));
            }
        }
    }

    private void rows(ScopedPhrases x) {
        int most = (int) Math.pow(10, phrases);
        for (int figures = 0; figures < most; figures++) {
            if (hasEachPhrase(figures)) {
                tell(READING, x.reading(figures));
            }
        }
    }

    private boolean hasEachPhrase(int figures) {
        int seen = 0;
        int left = figures;
        for (int i = 0; i < phrases; i++) {
            seen |= 1 << (left % 10);
            left /= 10;
        }
        return seen == (1 << phrases) - 1;
    }

    private void pairs(ScopedPhrases x, ScopedPhrases y) {
        int readings = x.rule(3);
        for (int a = 0; a < readings; a++) {
            for (int b = 0; b < readings; b++) {
                tell(ENTAILS, x.entails(a, b));
                tell(WITNESS, y.witness(a, b));
            }
        }
    }

    /** Worlds of three and of four things, from a sheet whose cells come by a seed. */
    private void largerWorlds(ScopedPhrases x, int i) {
        x.sheet(0, 2, 40);
        int seed = i;
        for (int cell = 0; cell < 40; cell++) {
            seed = (seed * 1103515245 + 12345) & Integer.MAX_VALUE;
            x.lay(0, cell, seed >> 16);
        }
        for (int n = 3; n <= 4; n++) {
            CHECK.due("read of " + n, x.read(0, 2, 0, n), n);
            for (int r = 0; r < x.rule(3); r++) {
                tell(HOLDS, x.holds(r));
            }
        }
    }
}
