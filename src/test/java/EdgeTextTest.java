/** Boundary cases of the text: the document's part 1 and promises 1 to 5, each sentence with a test of its own. */
public final class EdgeTextTest {
    private static final Check CHECK = new Check("EdgeTextTest");
    private static final int MIN = Integer.MIN_VALUE, MAX = Integer.MAX_VALUE;
    private static final int BAD = ScopedPhrases.BAD, FULL = ScopedPhrases.FULL, NONE = ScopedPhrases.NONE;
    private static final String AT_FIRST = "every man sees some dog;";
    private static final String FOUR = "no dog that likes one man that sees every dog sees no man";

    public static void main(String[] args) {
        twoToFourPhrases();
        twoHundredBytes();
        placesFromZero();
        tokensAreLong();
        blanksAsManyAsWanted();
        oneBlankBetweenNames();
        noBlankNeeded();
        lettersOfNames();
        onlyThirtyTwoIsBlank();
        pointIsNone();
        endAnywhere();
        tokenAnywhere();
        wordsOfTheGrammar();
        nothingBehindTheSign();
        numberedAsRead();
        firstFaultMet();
        noTokenIsItsByte();
        endIsTheLength();
        fifthQuantifier();
        fifthWhereNoneCanStand();
        takenInPlaceOfWhatWas();
        otherThingsStay();
        newObject();
        feedTooSmallOrLarge();
        feedLeastAndMost();
        feedCounts();
        feedFull();
        endTooSmallOrLarge();
        endEmpty();
        endFull();
        endKeepsTheFirst();
        textEmptiesTheTape();
        textOfNothing();
        textFaultLeavesTheSentence();
        faultAtFirst();
        faultOfTheLatest();
        CHECK.close();
    }

    private static void due(String call, long got, long want) {
        CHECK.due(call, got, want);
    }

    /** Has a new object told a text: what text() and fault() are to answer, and what the SENTENCE is then. */
    private static void text(String text, int answer, int fault) {
        ScopedPhrases x = new ScopedPhrases();
        due("text of '" + text + "'", Check.tell(x, text), answer);
        due("fault of '" + text + "'", x.fault(), fault);
        String told = text.trim().replaceAll(" +", " ").replace(" ;", ";");
        CHECK.same("sentence behind '" + text + "'", Check.sentence(x), answer < 0 ? AT_FIRST : told);
    }

    private static void misplaced(String text, int place) {
        text(text, -10 - place, 2);
    }

    private static String blanks(int n) {
        return " ".repeat(n);
    }

    private static ScopedPhrases full(String text) {
        ScopedPhrases x = new ScopedPhrases();
        Check.feed(x, text);
        while (x.count(1) < 200) {
            x.feed(32);
        }
        return x;
    }

    // ---- part 1

    private static void twoToFourPhrases() {
        CHECK.of("1: PHRASES 0 on (2 to 4)");
        text("one dog likes one dog;", 2, 0);
        text("one dog that sees no man that sees no man likes one dog;", 4, 0);
        text("one dog that sees no man likes one dog that sees no man;", 4, 0);
        text("one dog likes one dog that sees no man that sees no man;", 4, 0);
        misplaced("one dog;", 7);
        text("one dog that sees no man that sees no man likes one dog that sees no man;", -76, 3);
    }

    private static void twoHundredBytes() {
        CHECK.of("1: THE TAPE has 200 bytes");
        String text = "some dog likes no man;";
        text(blanks(200 - text.length()) + text, 2, 0);
        ScopedPhrases x = full(blanks(179));
        x.end(179);
        Check.feed(x, text);
        due("its ; was the 201st byte: one is left out", x.count(1), 200);
        due("text without it ends at 200", x.text(), -210);
        due("fault", x.fault(), 2);
    }

    private static void placesFromZero() {
        CHECK.of("1: places from 0");
        text("?", -10, 1);
        text(" ?", -11, 1);
        text(blanks(199) + "?", -209, 1);
        misplaced(blanks(199) + ";", 199);
        misplaced(blanks(200), 200);
    }

    private static void tokensAreLong() {
        CHECK.of("1: TOKENS, each as long as may be");
        misplaced("everyman sees some dog;", 0);
        misplaced("every mansees some dog;", 6);
        misplaced("every man seessome dog;", 10);
        misplaced("every man thatsees some dog sees no man;", 10);
        misplaced("noone sees some dog;", 0);
        misplaced("every manthat sees some dog sees no man;", 6);
    }

    private static void blanksAsManyAsWanted() {
        CHECK.of("1: blanks (32) ahead, between, behind, as many as wanted");
        text(blanks(9) + "every man sees some dog;", 2, 0);
        text("every man sees some dog;" + blanks(9), 2, 0);
        text("every man sees some dog" + blanks(9) + ";", 2, 0);
        String[] words = {"no", "dog", "that", "likes", "one", "man", "sees", "some", "dog", ";"};
        for (int i = 1; i < words.length; i++) {
            StringBuilder text = new StringBuilder(words[0]);
            for (int j = 1; j < words.length; j++) {
                text.append(blanks(j == i ? 100 : 1)).append(words[j]);
            }
            text(text.toString(), 3, 0);
        }
    }

    private static void oneBlankBetweenNames() {
        CHECK.of("1: at least one between two NAMES");
        text("no dog that likes one man sees some dog;", 3, 0);
        misplaced("nodog that likes one man sees some dog;", 0);
        misplaced("no dogthat likes one man sees some dog;", 3);
        misplaced("no dog thatlikes one man sees some dog;", 7);
        misplaced("no dog that likesone man sees some dog;", 12);
        misplaced("no dog that likes oneman sees some dog;", 18);
        misplaced("no dog that likes one mansees some dog;", 22);
    }

    private static void noBlankNeeded() {
        CHECK.of("1: else none is needed");
        text("no dog sees one man;", 2, 0);
        text("no dog sees one man ;", 2, 0);
        text("no dog sees one man;.", -30, 1);
        misplaced("no dog sees one man;;", 20);
        misplaced("no dog sees one man;no", 20);
    }

    private static void lettersOfNames() {
        CHECK.of("1: NAMES (a .. z)");
        misplaced("a", 0);
        misplaced("z", 0);
        text("`", -10, 1);
        text("{", -10, 1);
        text("A", -10, 1);
        text("Z", -10, 1);
        text("one man`sees one dog;", -17, 1);
        text("one man{sees one dog;", -17, 1);
        text("one Man sees one dog;", -14, 1);
        text("one man_sees one dog;", -17, 1);
        text("one man2 sees one dog;", -17, 1);
    }

    private static void onlyThirtyTwoIsBlank() {
        CHECK.of("1: blanks (32)");
        for (int c = 0; c < 128; c++) {
            boolean letter = c >= 'a' && c <= 'z';
            if (c != 32 && c != ';' && !letter) {
                text("one" + (char) c + "man sees one dog;", -13, 1);
            }
        }
        text("one man sees one dog;", 2, 0);
    }

    private static void pointIsNone() {
        CHECK.of("1: the sign ; (a point is none)");
        text("one man sees one dog.", -30, 1);
        text("one man sees one dog .", -31, 1);
        text("one man sees one dog:", -30, 1);
        text("one man sees one dog<", -30, 1);
        text("one man sees one dog;", 2, 0);
    }

    /** Of each beginning of a text, whole TOKENS long, the end is the fault. */
    private static void endAnywhere() {
        CHECK.of("1: text: P V P ; (the end)");
        String[] words = {"no ", "dog ", "that ", "likes ", "one ", "man ", "sees ", "some ", "dog ", ";"};
        StringBuilder text = new StringBuilder();
        for (String word : words) {
            misplaced(text.toString(), text.length());
            text.append(word);
        }
        text(text.toString(), 3, 0);
    }

    /** In place of each TOKEN of a text, each word that can not stand there. */
    private static void tokenAnywhere() {
        CHECK.of("1: 2 a TOKEN that can not stand there");
        String[] words = {"no", "dog", "that", "likes", "one", "man", "sees", "some", "dog", ";", ""};
        String quantifiers = "every some no one";
        String verbs = "sees likes";
        String[] can = {
            quantifiers, "man dog", "that " + verbs, verbs, quantifiers, "man dog", "that " + verbs,
            quantifiers, "man dog", "that ;", ""};
        String[] all = {"every", "some", "no", "one", "man", "dog", "sees", "likes", "that", ";", "cat"};
        StringBuilder ahead = new StringBuilder();
        for (int i = 0; i < words.length; i++) {
            for (String word : all) {
                if (!(" " + can[i] + " ").contains(" " + word + " ")) {
                    misplaced(ahead + word + " ?", ahead.length());
                }
            }
            ahead.append(words[i]).append(' ');
        }
    }

    private static void wordsOfTheGrammar() {
        CHECK.of("1: Q: every | some | no | one   N: man | dog   V: sees | likes");
        for (String q : new String[] {"every", "some", "no", "one"}) {
            text(q + " man sees " + q + " dog;", 2, 0);
            misplaced(q.substring(0, q.length() - 1) + " man sees no dog;", 0);
            misplaced(q.substring(1) + " man sees no dog;", 0);
            misplaced(q + "s man sees no dog;", 0);
        }
        for (String n : new String[] {"man", "dog"}) {
            text("no " + n + " sees no " + n + ";", 2, 0);
            misplaced("no " + n.substring(0, 2) + " sees no dog;", 3);
            misplaced("no " + n + "s sees no dog;", 3);
        }
        for (String v : new String[] {"sees", "likes"}) {
            text("no man " + v + " no dog;", 2, 0);
            text("no man that " + v + " no dog " + v + " no dog;", 3, 0);
            misplaced("no man " + v.substring(0, v.length() - 1) + " no dog;", 7);
            misplaced("no man " + v + "s no dog;", 7);
        }
        misplaced("no man tha sees no dog sees no dog;", 7);
        misplaced("no man thats sees no dog sees no dog;", 7);
    }

    private static void nothingBehindTheSign() {
        CHECK.of("1: text: P V P ; (nothing comes behind)");
        misplaced("no man sees no dog;;", 19);
        misplaced("no man sees no dog; no man sees no dog;", 20);
        misplaced("no man sees no dog; that", 20);
        text("no man sees no dog;  \n", -31, 1);
        text("no man sees no dog;  ", 2, 0);
    }

    private static void numberedAsRead() {
        CHECK.of("1: PHRASES are numbered as their Q are read");
        ScopedPhrases x = new ScopedPhrases();
        Check.tell(x, "every man that sees some man sees no man that sees one man;");
        for (int p = 0; p < 4; p++) {
            due("quantifier of phrase " + p, x.phrase(p, 0), p);
        }
        due("the object", x.rule(1), 2);
        due("its host", x.phrase(3, 2), 2);
    }

    private static void firstFaultMet() {
        CHECK.of("1: FAULTS, the first met as it is read (a TOKEN is read when the one before has been taken)");
        misplaced("cat ?", 0);
        misplaced("no sees ?", 3);
        text("no ? sees", -13, 1);
        misplaced("no man man ?", 7);
        text("no man sees no dog ? ;", -29, 1);
        text(FOUR + " that sees some ?", -10 - FOUR.length() - 11, 3);
        text(FOUR + " that sees some some", -10 - FOUR.length() - 11, 3);
        misplaced(FOUR + " that that some", FOUR.length() + 6);
    }

    private static void noTokenIsItsByte() {
        CHECK.of("1: 1 no TOKEN (its byte)");
        text("  ?", -12, 1);
        text("no man?", -16, 1);
        text("no man  ?", -18, 1);
        text("no man sees no dog;?", -29, 1);
        text("no man sees no dog;   ?  ", -32, 1);
        text("n?", -10, 2);
    }

    private static void endIsTheLength() {
        CHECK.of("1: or the end (the length)");
        misplaced("", 0);
        misplaced(" ", 1);
        misplaced("no man sees no dog", 18);
        misplaced("no man sees no dog   ", 21);
        misplaced("no man" + blanks(194), 200);
    }

    private static void fifthQuantifier() {
        CHECK.of("1: 3 the fifth Q");
        text(FOUR + ";", 4, 0);
        text("no dog that sees no dog that sees no dog that sees no dog sees one man;", -73, 3);
        text("no dog that sees no dog that sees no dog that sees no dog that sees one man;", -78, 3);
        text("no dog sees no dog that sees no dog that sees no dog that sees one man;", -73, 3);
        text("no dog that sees no dog sees no dog that sees no dog that sees one man;", -73, 3);
        text("no dog that sees no dog that sees no dog sees no dog that sees one", -73, 3);
        for (String q : new String[] {"every", "some", "no", "one"}) {
            text(FOUR + " that sees " + q, -10 - FOUR.length() - 11, 3);
        }
        misplaced("no dog that sees no dog that sees no dog that sees no dog;", 57);
        misplaced(FOUR + " that sees ones", FOUR.length() + 11);
    }

    private static void fifthWhereNoneCanStand() {
        CHECK.of("1: 2 a TOKEN that can not stand there (a fifth Q, too)");
        misplaced(FOUR + " some", FOUR.length() + 1);
        misplaced(FOUR + " that some", FOUR.length() + 6);
        misplaced(FOUR + "; some", FOUR.length() + 2);
    }

    private static void takenInPlaceOfWhatWas() {
        CHECK.of("1: A text that is taken tells the SENTENCE, in place of what there was");
        ScopedPhrases x = new ScopedPhrases();
        String[] texts = {FOUR + ";", "some man sees no man;", "no dog likes one dog that sees no man;", AT_FIRST};
        int[] phrases = {4, 2, 3, 2};
        int[] readings = {14, 2, 5, 2};
        for (int i = 0; i < texts.length; i++) {
            due("text " + i, Check.tell(x, texts[i]), phrases[i]);
            CHECK.same("sentence " + i, Check.sentence(x), texts[i]);
            due("readings " + i, x.rule(3), readings[i]);
            due("one reading more " + i, x.many(readings[i]), BAD);
            due("one phrase more " + i, x.phrase(phrases[i], 0), BAD);
        }
        due("many is of the last one", x.many(0), 2212);
    }

    private static void otherThingsStay() {
        CHECK.of("1: (THE WORLD, IMAGES, SHEETS stay)");
        ScopedPhrases x = new ScopedPhrases();
        x.keep(1);
        x.things(4);
        x.is(1, 3, 1);
        x.does(1, 3, 3, 1);
        x.sheet(0, 1, 4);
        x.lay(0, 2, 1);
        due("text", Check.tell(x, FOUR + ";"), 4);
        due("things", x.rule(5), 4);
        due("told(1, 3, 0)", x.told(1, 3, 0), 1);
        due("told(3, 3, 3)", x.told(3, 3, 3), 1);
        due("images", x.count(0), 1);
        due("cells", x.count(2), 4);
        due("read", x.read(0, 1, 0, 1), 1);
        due("cell 2", x.told(2, 0, 0), 1);
        due("back", x.back(1), 2);
        CHECK.same("the image's sentence", Check.sentence(x), AT_FIRST);
        due("the image's world", x.rule(5), 1);
    }

    // ---- promise 1

    private static void newObject() {
        CHECK.of("promise 1: The SENTENCE, THE WORLD as at first; SHEETS of nothing");
        ScopedPhrases x = new ScopedPhrases();
        CHECK.same("sentence", Check.sentence(x), AT_FIRST);
        due("phrases", x.rule(0), 2);
        due("things", x.rule(5), 1);
        for (int what = 0; what < 4; what++) {
            due("told(" + what + ", 0, 0)", x.told(what, 0, 0), 0);
        }
        due("told(0, 1, 0)", x.told(0, 1, 0), BAD);
        for (int k = 0; k < 4; k++) {
            due("lay(" + k + ", 0, 0)", x.lay(k, 0, 0), -11);
            for (int lane = 0; lane < 3; lane++) {
                due("read(" + k + ", " + lane + ", 0, 1)", x.read(k, lane, 0, 1), -11);
            }
        }
        due("count(0)", x.count(0), 0);
        due("count(1)", x.count(1), 0);
        due("count(2)", x.count(2), NONE);
        due("the tape ends at 0", x.text(), -10);
        ScopedPhrases y = new ScopedPhrases();
        x.draw(7);
        x.things(4);
        x.sheet(0, 0, 1);
        x.keep(0);
        CHECK.same("another object", Check.sentence(y), AT_FIRST);
        due("its things", y.rule(5), 1);
        due("its sheet", y.count(2), NONE);
        due("its images", y.count(0), 0);
    }

    // ---- promise 2

    private static void feedTooSmallOrLarge() {
        CHECK.of("promise 2: A byte (0 to 127) .. BAD");
        ScopedPhrases x = new ScopedPhrases();
        for (int c : new int[] {-1, -128, MIN, 128, 129, 255, 256 + 'a', 65536 + 'a', MAX}) {
            due("feed(" + c + ")", x.feed(c), BAD);
            due("bytes", x.count(1), 0);
        }
    }

    private static void feedLeastAndMost() {
        CHECK.of("promise 2: A byte (0 to 127)");
        ScopedPhrases x = new ScopedPhrases();
        for (int c = 0; c < 128; c++) {
            due("feed(" + c + ")", x.feed(c), c + 1);
        }
        due("byte 0 is no TOKEN", x.text(), -10);
        due("its fault", x.fault(), 1);
        x.feed(127);
        due("byte 127 is none", x.text(), -10);
        due("its fault", x.fault(), 1);
    }

    private static void feedCounts() {
        CHECK.of("promise 2: comes behind THE TAPE: how many it has");
        ScopedPhrases x = new ScopedPhrases();
        String text = "no dog sees one man;";
        for (int i = 0; i < text.length(); i++) {
            due("byte " + i, x.feed(text.charAt(i)), i + 1);
            due("count", x.count(1), i + 1);
        }
        due("they are in order", x.text(), 2);
        CHECK.same("they are in order", Check.sentence(x), text);
        due("behind text it is the first again", x.feed('n'), 1);
        x.feed('o');
        x.end(1);
        due("behind end it is the next", x.feed('n'), 2);
    }

    private static void feedFull() {
        CHECK.of("promise 2: FULL: more than 200");
        ScopedPhrases x = full("no dog sees one man;");
        x.end(199);
        due("the 200th", x.feed(32), 200);
        for (int i = 0; i < 3; i++) {
            due("the 201st", x.feed('?'), FULL);
            due("bytes", x.count(1), 200);
        }
        due("BAD fits first", x.feed(-1), BAD);
        due("BAD fits first", x.feed(128), BAD);
        due("the bytes are as they were", x.text(), 2);
        due("there is room again", x.feed(32), 1);
        x = full("");
        x.end(199);
        due("there is room for one", x.feed(32), 200);
        due("and no more", x.feed(32), FULL);
    }

    // ---- promise 3

    private static void endTooSmallOrLarge() {
        CHECK.of("promise 3: BAD (n above that, too)");
        ScopedPhrases x = new ScopedPhrases();
        Check.feed(x, "abc");
        for (int n : new int[] {-1, MIN, 4, 5, 200, 201, MAX}) {
            due("end(" + n + ") of 3", x.end(n), BAD);
            due("bytes", x.count(1), 3);
        }
        due("end(3) of 3", x.end(3), 3);
        due("bytes", x.count(1), 3);
        due("end(2) of 3", x.end(2), 3);
        due("end(3) of 2", x.end(3), BAD);
    }

    private static void endEmpty() {
        CHECK.of("promise 3: how many it had (an empty tape)");
        ScopedPhrases x = new ScopedPhrases();
        due("end(0)", x.end(0), 0);
        due("end(1)", x.end(1), BAD);
        due("end(-1)", x.end(-1), BAD);
        Check.feed(x, "ab");
        due("end(0) of 2", x.end(0), 2);
        due("bytes", x.count(1), 0);
        due("end(0)", x.end(0), 0);
        due("the first byte again", x.feed(32), 1);
    }

    private static void endFull() {
        CHECK.of("promise 3: how many it had (a full tape)");
        ScopedPhrases x = full("");
        due("end(201)", x.end(201), BAD);
        due("end(200)", x.end(200), 200);
        due("bytes", x.count(1), 200);
        due("end(199)", x.end(199), 200);
        due("bytes", x.count(1), 199);
        due("end(200) of 199", x.end(200), BAD);
    }

    private static void endKeepsTheFirst() {
        CHECK.of("promise 3: THE TAPE keeps its first n bytes");
        ScopedPhrases x = new ScopedPhrases();
        Check.feed(x, "no dog sees one man;??");
        due("end(20)", x.end(20), 22);
        due("text", x.text(), 2);
        CHECK.same("sentence", Check.sentence(x), "no dog sees one man;");
        Check.feed(x, "no dog sees one man;");
        x.end(16);
        Check.feed(x, "dog;");
        due("text", x.text(), 2);
        CHECK.same("sentence", Check.sentence(x), "no dog sees one dog;");
        // what stood behind the end is not read as part of the last TOKEN
        Check.feed(x, "no man sees no dogs");
        due("end(18)", x.end(18), 19);
        due("text", x.text(), -28);
        due("fault", x.fault(), 2);
        Check.feed(x, "no man sees no dog;");
        due("end(18)", x.end(18), 19);
        due("text without the sign", x.text(), -28);
        due("fault", x.fault(), 2);
        Check.feed(x, "no man sees no dog");
        x.text();
        Check.feed(x, "no man sees no do");
        due("a letter short", x.text(), -25);
    }

    // ---- promise 4

    private static void textEmptiesTheTape() {
        CHECK.of("promise 4: THE TAPE (empty then, by a FAULT, too)");
        String[] texts = {"no dog sees one man;", "?", "cat", FOUR + " that sees some", "", blanks(200)};
        for (String text : texts) {
            ScopedPhrases x = new ScopedPhrases();
            Check.tell(x, text);
            due("bytes behind '" + text + "'", x.count(1), 0);
            due("had behind '" + text + "'", x.end(0), 0);
            due("again behind '" + text + "'", x.text(), -10);
        }
    }

    private static void textOfNothing() {
        CHECK.of("promise 4: -10 less the place of its FAULT");
        text("", -10, 2);
        text(";", -10, 2);
        text(" ;", -11, 2);
        text(blanks(200), -210, 2);
    }

    private static void textFaultLeavesTheSentence() {
        CHECK.of("promise 4: that which was told stays");
        ScopedPhrases x = new ScopedPhrases();
        String told = "one dog that likes no man sees every dog;";
        due("told", Check.tell(x, told), 3);
        int many = x.many(3);
        String[] faulty = {
            "", "?", "no man likes", "no man likes no man", "no man likes no man; x", "no man that sees no dog likes no man",
            FOUR + " that sees some", "no dog that sees no dog that sees no dog that sees no dog sees one man;"};
        for (String text : faulty) {
            CHECK.that("'" + text + "' is refused", Check.tell(x, text) <= -10);
            CHECK.same("behind '" + text + "'", Check.sentence(x), told);
            due("phrases", x.rule(0), 3);
            due("object", x.rule(1), 2);
            due("readings", x.rule(3), 5);
            due("many", x.many(3), many);
        }
    }

    // ---- promise 5

    private static void faultAtFirst() {
        CHECK.of("promise 5: 0 (there was no text)");
        ScopedPhrases x = new ScopedPhrases();
        due("fault", x.fault(), 0);
        Check.feed(x, "??");
        x.end(1);
        due("fault ahead of text", x.fault(), 0);
    }

    private static void faultOfTheLatest() {
        CHECK.of("promise 5: The FAULT of the latest text()");
        ScopedPhrases x = new ScopedPhrases();
        String[] texts = {"?", "no man sees no man;", "cat", FOUR + " that sees some", "", "?", "no dog sees no man;"};
        int[] faults = {1, 0, 2, 3, 2, 1, 0};
        for (int i = 0; i < texts.length; i++) {
            Check.tell(x, texts[i]);
            due("fault of '" + texts[i] + "'", x.fault(), faults[i]);
            x.draw(i);
            x.keep(0);
            x.back(0);
            x.feed(200);
            x.lay(0, 0, 0);
            x.sheet(1, 0, -1);
            due("it stays, whatever else is called", x.fault(), faults[i]);
        }
    }
}
