/**
 * Sentences with every, some, no, one, all their readings, and the worlds in which those hold.
 *
 * Every row that a call needs is made in a constructor and used again, so that no call makes an object.
 */
public final class ScopedPhrases {
    public static final int BAD = -1, STATE = -2, FULL = -3, NONE = -4;

    private static final int EVERY = 0, SOME = 1, NO = 2, QUANTIFIERS = 4;
    private static final int NOUNS = 2, VERBS = 2;
    private static final int MOST_PHRASES = 4, MOST_THINGS = 4, MOST_READINGS = 24;

    /** The place THE TOP; the places WITHIN a PHRASE bear that PHRASE's number. */
    private static final int TOP = 4, PLACES = 5;
    /** No PHRASE: behind the last one of a place. */
    private static final int NOBODY = -1;

    private static final int TAPE_BYTES = 200, BLANK = 32;
    private static final int FAULT_NO_TOKEN = 1, FAULT_MISPLACED = 2, FAULT_FIFTH = 3;

    private static final int TOKEN_END = 0, TOKEN_NONE = 1, TOKEN_STOP = 2, TOKEN_THAT = 3, TOKEN_UNKNOWN = 4;
    private static final int TOKEN_QUANTIFIER = 10, TOKEN_NOUN = 20, TOKEN_VERB = 30;

    private static final int IMAGES = 2, SHEETS = 4, LANES = 3, MOST_CELLS = 50;
    private static final int FAULT_NULL = 1, FAULT_STORE = 2, FAULT_INDEX = 3, FAULT_SIZE = 4;

    private static final int SMALL_WORLDS = 4128, SMALL_OF_ONE = 32;
    /** One word for the SMALL WORLDS of one THING, 64 for those of two. */
    private static final int WORDS = 65;
    private static final long WORD_OF_ONE = 0xFFFFFFFFL;
    private static final int MOST_FACTS = 40;
    /** Bit w of the j-th one is bit j of the number w. */
    private static final long[] LOW_BITS = {
        0xAAAAAAAAAAAAAAAAL, 0xCCCCCCCCCCCCCCCCL, 0xF0F0F0F0F0F0F0F0L,
        0xFF00FF00FF00FF00L, 0xFFFF0000FFFF0000L, 0xFFFFFFFF00000000L
    };

    private final Tape tape;
    private final Parser parser;
    private final Sentence sentence;
    private final Readings readings;
    private final Meaning meaning;
    private final World theWorld;
    private final World smallWorld;
    private final Image[] images;
    private final Sheet[] sheets;

    public ScopedPhrases() {
        tape = new Tape();
        parser = new Parser();
        sentence = new Sentence();
        readings = new Readings();
        meaning = new Meaning();
        theWorld = new World();
        smallWorld = new World();
        images = new Image[IMAGES];
        for (int k = 0; k < IMAGES; k++) {
            images[k] = new Image();
        }
        sheets = new Sheet[SHEETS];
        for (int k = 0; k < SHEETS; k++) {
            sheets[k] = new Sheet();
        }
        readings.list(sentence);
    }

    // ---- the text

    public int feed(int c) {
        if (c < 0 || c > 127) {
            return BAD;
        }
        if (tape.length >= TAPE_BYTES) {
            return FULL;
        }
        tape.bytes[tape.length] = (byte) c;
        tape.length++;
        return tape.length;
    }

    public int end(int n) {
        if (n < 0 || n > tape.length) {
            return BAD;
        }
        int had = tape.length;
        tape.length = n;
        return had;
    }

    public int text() {
        boolean taken = parser.parse(tape);
        tape.length = 0;
        if (!taken) {
            return -10 - parser.tokenAt;
        }
        sentence.copyFrom(parser.draft);
        structureChanged();
        return sentence.phrases;
    }

    public int fault() {
        return parser.faultFound;
    }

    // ---- the sentence

    public int rule(int what) {
        switch (what) {
            case 0:
                return sentence.phrases;
            case 1:
                return sentence.objectAt;
            case 2:
                return sentence.verb;
            case 3:
                return readings.size;
            case 4:
                return unlikeReadings();
            case 5:
                return theWorld.size;
            default:
                return BAD;
        }
    }

    public int phrase(int p, int what) {
        if (!isPhrase(p)) {
            return BAD;
        }
        switch (what) {
            case 0:
                return sentence.quantifier[p];
            case 1:
                return sentence.noun[p];
            case 2:
                return sentence.hostOf(p);
            case 3:
                return sentence.hostVerb[p];
            case 4:
                return sentence.guestOf(p);
            case 5:
                return sentence.hostsOver(p);
            default:
                return BAD;
        }
    }

    public int becomes(int p, int what, int v) {
        if (what < 0 || what > 2 || v < 0 || v >= (what == 0 ? QUANTIFIERS : 2)) {
            return BAD;
        }
        if (what != 2 && !isPhrase(p)) {
            return BAD;
        }
        int was;
        if (what == 0) {
            was = sentence.quantifier[p];
            sentence.quantifier[p] = v;
        } else if (what == 1) {
            was = sentence.noun[p];
            sentence.noun[p] = v;
        } else {
            was = sentence.verb;
            sentence.verb = v;
        }
        meaning.forget();
        return was;
    }

    public int draw(int seed) {
        sentence.drawBy(seed);
        structureChanged();
        return sentence.phrases;
    }

    // ---- readings

    public int within(int r, int p) {
        if (!isReading(r) || !isPhrase(p)) {
            return BAD;
        }
        int place = readings.place[r * MOST_PHRASES + p];
        return place == TOP ? NONE : place;
    }

    public int ahead(int r, int p) {
        if (!isReading(r) || !isPhrase(p)) {
            return BAD;
        }
        return readings.rank[r * MOST_PHRASES + p];
    }

    public int row(int r, int i) {
        if (!isReading(r) || !isPhrase(i)) {
            return BAD;
        }
        return readings.firstRow[r * MOST_PHRASES + i];
    }

    public int reading(int figures) {
        if (!readings.takeFigures(figures, 10, sentence.phrases)) {
            return BAD;
        }
        readings.placeAll(sentence);
        return readings.find(sentence.phrases);
    }

    public int holds(int r) {
        if (!isReading(r)) {
            return BAD;
        }
        return meaning.holdsIn(sentence, readings, r, theWorld);
    }

    public int small(int r, int w) {
        if (!isReading(r) || !isSmallWorld(w)) {
            return BAD;
        }
        smallWorld.takeSmall(w);
        return meaning.holdsIn(sentence, readings, r, smallWorld);
    }

    public int many(int r) {
        if (!isReading(r)) {
            return BAD;
        }
        meaning.learn(sentence, readings, r);
        return meaning.worldsOf(r);
    }

    public int alike(int r) {
        if (!isReading(r)) {
            return BAD;
        }
        return leastAlike(r);
    }

    public int entails(int a, int b) {
        if (!isReading(a) || !isReading(b)) {
            return BAD;
        }
        return firstOnly(a, b) == NONE ? 1 : 0;
    }

    public int most(int what) {
        if (what != 0 && what != 1) {
            return BAD;
        }
        for (int r = 0; r < readings.size; r++) {
            if (isExtreme(r, what)) {
                return r;
            }
        }
        return NONE;
    }

    public int witness(int a, int b) {
        if (!isReading(a) || !isReading(b)) {
            return BAD;
        }
        int w = firstOnly(a, b);
        if (w != NONE) {
            theWorld.takeSmall(w);
        }
        return w;
    }

    // ---- the world

    public int world(int w) {
        if (!isSmallWorld(w)) {
            return BAD;
        }
        theWorld.takeSmall(w);
        return theWorld.size;
    }

    public int things(int n) {
        if (n < 1 || n > MOST_THINGS) {
            return BAD;
        }
        int had = theWorld.size;
        theWorld.take(n, 0L);
        return had;
    }

    public int is(int noun, int t, int v) {
        if (noun < 0 || noun >= NOUNS || !isThing(t) || (v != 0 && v != 1)) {
            return BAD;
        }
        return theWorld.change(nounFact(theWorld.size, noun, t), v);
    }

    public int does(int verb, int t, int u, int v) {
        if (verb < 0 || verb >= VERBS || !isThing(t) || !isThing(u) || (v != 0 && v != 1)) {
            return BAD;
        }
        return theWorld.change(verbFact(theWorld.size, verb, t, u), v);
    }

    public int told(int what, int t, int u) {
        if (what < 0 || what >= NOUNS + VERBS || !isThing(t)) {
            return BAD;
        }
        if (what < NOUNS) {
            return theWorld.fact(nounFact(theWorld.size, what, t));
        }
        if (!isThing(u)) {
            return BAD;
        }
        return theWorld.fact(verbFact(theWorld.size, what - NOUNS, t, u));
    }

    // ---- images, sheets

    public int keep(int k) {
        if (k < 0 || k >= IMAGES) {
            return BAD;
        }
        int was = images[k].kept ? 1 : 0;
        images[k].kept = true;
        images[k].keptSentence.copyFrom(sentence);
        images[k].keptWorld.copyFrom(theWorld);
        return was;
    }

    public int back(int k) {
        if (k < 0 || k >= IMAGES) {
            return BAD;
        }
        if (!images[k].kept) {
            return STATE;
        }
        sentence.copyFrom(images[k].keptSentence);
        theWorld.copyFrom(images[k].keptWorld);
        structureChanged();
        return sentence.phrases;
    }

    public int sheet(int k, int lane, int n) {
        if (!isSheet(k) || !isLane(lane) || n > MOST_CELLS) {
            return BAD;
        }
        if (n < 0) {
            return -10 - FAULT_SIZE;
        }
        sheets[k].renew(lane, n);
        return 1;
    }

    public int lay(int k, int i, int v) {
        if (!isSheet(k)) {
            return BAD;
        }
        Sheet onto = sheets[k];
        if (onto.size < 0) {
            return -10 - FAULT_NULL;
        }
        if (i < 0 || i >= onto.size) {
            return -10 - FAULT_INDEX;
        }
        onto.cells[i] = onto.narrowed(v);
        return 1;
    }

    public int read(int k, int lane, int f, int n) {
        if (!isSheet(k) || !isLane(lane) || n < 1 || n > MOST_THINGS) {
            return BAD;
        }
        int length = factsOf(n);
        int found = sheets[k].copyFault(lane, f, length);
        if (found != 0) {
            return -10 - found;
        }
        theWorld.take(n, sheets[k].lowestBits(f, length));
        return n;
    }

    public int count(int what) {
        switch (what) {
            case 0:
                return keptImages();
            case 1:
                return tape.length;
            case 2:
                return sheets[0].size < 0 ? NONE : sheets[0].size;
            default:
                return BAD;
        }
    }

    // ---- what the calls share

    private boolean isPhrase(int p) {
        return p >= 0 && p < sentence.phrases;
    }

    private boolean isReading(int r) {
        return r >= 0 && r < readings.size;
    }

    private boolean isThing(int t) {
        return t >= 0 && t < theWorld.size;
    }

    private static boolean isSmallWorld(int w) {
        return w >= 0 && w < SMALL_WORLDS;
    }

    private static boolean isSheet(int k) {
        return k >= 0 && k < SHEETS;
    }

    private static boolean isLane(int lane) {
        return lane >= 0 && lane < LANES;
    }

    private void structureChanged() {
        readings.list(sentence);
        meaning.forget();
    }

    private int keptImages() {
        int kept = 0;
        for (int k = 0; k < IMAGES; k++) {
            if (images[k].kept) {
                kept++;
            }
        }
        return kept;
    }

    private int unlikeReadings() {
        int unlike = 0;
        for (int r = 0; r < readings.size; r++) {
            if (leastAlike(r) == r) {
                unlike++;
            }
        }
        return unlike;
    }

    private int leastAlike(int r) {
        meaning.learn(sentence, readings, r);
        for (int q = 0; q < r; q++) {
            meaning.learn(sentence, readings, q);
            if (meaning.sameWorlds(q, r)) {
                return q;
            }
        }
        return r;
    }

    /** The first SMALL WORLD in which a HOLDS and b does not, or NONE. */
    private int firstOnly(int a, int b) {
        meaning.learn(sentence, readings, a);
        meaning.learn(sentence, readings, b);
        return meaning.firstWorldWithout(a, b);
    }

    /** Whether all ENTAIL r (what 0), or r ENTAILS all (what 1). */
    private boolean isExtreme(int r, int what) {
        for (int q = 0; q < readings.size; q++) {
            int only = what == 0 ? firstOnly(q, r) : firstOnly(r, q);
            if (only != NONE) {
                return false;
            }
        }
        return true;
    }

    // A WORLD's tables are bits of one number, in the order that the document tells for SMALL WORLDS.

    private static int factsOf(int size) {
        return 2 * size + 2 * size * size;
    }

    private static int nounFact(int size, int noun, int t) {
        return noun * size + t;
    }

    private static int verbFact(int size, int verb, int t, int u) {
        return NOUNS * size + (verb * size + t) * size + u;
    }

    /**
     * A SENTENCE. A PHRASE's guest is the PHRASE whose HOST it is. By the grammar a guest's number is
     * always the next one, so that a HOST is known by its VERB alone.
     */
    private static final class Sentence {
        int phrases;
        int objectAt;
        int verb;
        final int[] quantifier;
        final int[] noun;
        /** The VERB of a HOST; NONE: the PHRASE is no HOST. */
        final int[] hostVerb;
        private int seedNow;

        /** Every man sees some dog. */
        Sentence() {
            quantifier = new int[MOST_PHRASES];
            noun = new int[MOST_PHRASES];
            hostVerb = new int[MOST_PHRASES];
            phrases = 0;
            add(EVERY, 0);
            objectAt = 1;
            verb = 0;
            add(SOME, 1);
            seedNow = 0;
        }

        void empty() {
            phrases = 0;
            objectAt = 0;
            verb = 0;
        }

        void add(int q, int n) {
            if (phrases < MOST_PHRASES) {
                quantifier[phrases] = q;
                noun[phrases] = n;
                hostVerb[phrases] = NONE;
                phrases++;
            }
        }

        void makeLatestHost(int v) {
            if (phrases > 0) {
                hostVerb[phrases - 1] = v;
            }
        }

        void copyFrom(Sentence other) {
            phrases = other.phrases;
            objectAt = other.objectAt;
            verb = other.verb;
            for (int p = 0; p < MOST_PHRASES; p++) {
                quantifier[p] = other.quantifier[p];
                noun[p] = other.noun[p];
                hostVerb[p] = other.hostVerb[p];
            }
        }

        int hostOf(int p) {
            return p == 0 || p == objectAt ? NONE : p - 1;
        }

        int guestOf(int p) {
            return hostVerb[p] == NONE ? NONE : p + 1;
        }

        int hostsOver(int p) {
            return p < objectAt ? p : p - objectAt;
        }

        void drawBy(int seed) {
            seedNow = seed;
            empty();
            drawPhrases(2);
            objectAt = phrases;
            verb = got() % 2;
            drawPhrases(3);
        }

        /** One PHRASE, and those below it as long as no more than so many have been drawn in all. */
        private void drawPhrases(int mostHosting) {
            for (int i = 0; i < MOST_PHRASES; i++) {
                int q = got() % QUANTIFIERS;
                int n = got() % NOUNS;
                add(q, n);
                int last = got() % 2;
                if (last != 0 || phrases > mostHosting) {
                    return;
                }
                makeLatestHost(got() % VERBS);
            }
        }

        private int got() {
            seedNow = seedNow * 1103515245 + 12345;
            return (seedNow >>> 16) & 0x7FFF;
        }
    }

    /** A WORLD: how many THINGS, and its tables as bits of a number. */
    private static final class World {
        int size;
        long facts;

        World() {
            size = 1;
            facts = 0L;
        }

        void take(int n, long bits) {
            size = n;
            facts = bits;
        }

        void takeSmall(int w) {
            if (w < SMALL_OF_ONE) {
                take(1, w & 15);
            } else {
                take(2, w - SMALL_OF_ONE);
            }
        }

        void copyFrom(World other) {
            take(other.size, other.facts);
        }

        int fact(int j) {
            return (int) (facts >>> j) & 1;
        }

        int change(int j, int v) {
            int was = fact(j);
            if (v == 1) {
                facts |= 1L << j;
            } else {
                facts &= ~(1L << j);
            }
            return was;
        }
    }

    private static final class Tape {
        final byte[] bytes;
        int length;

        Tape() {
            bytes = new byte[TAPE_BYTES];
            length = 0;
        }

        boolean hasLetter(int i) {
            return i >= 0 && i < length && bytes[i] >= 'a' && bytes[i] <= 'z';
        }

        boolean spells(int from, int to, String word) {
            if (from < 0 || to > length || to - from != word.length()) {
                return false;
            }
            for (int i = from; i < to; i++) {
                if (bytes[i] != word.charAt(i - from)) {
                    return false;
                }
            }
            return true;
        }
    }

    /** Reads THE TAPE into a draft, so that the SENTENCE stays if there is a FAULT. */
    private static final class Parser {
        final Sentence draft;
        int faultFound;
        /** Where the TOKEN that was read last begins: the place of the FAULT, if it is one. */
        int tokenAt;
        private int token;
        private int behind;

        Parser() {
            draft = new Sentence();
            faultFound = 0;
            tokenAt = 0;
            token = TOKEN_END;
            behind = 0;
        }

        boolean parse(Tape tape) {
            faultFound = 0;
            behind = 0;
            draft.empty();
            readToken(tape);
            if (!takePhrases(tape)) {
                return false;
            }
            draft.objectAt = draft.phrases;
            if (!isOneOf(TOKEN_VERB, VERBS)) {
                return refuse();
            }
            draft.verb = token - TOKEN_VERB;
            readToken(tape);
            if (!takePhrases(tape)) {
                return false;
            }
            if (token != TOKEN_STOP) {
                return refuse();
            }
            readToken(tape);
            return token == TOKEN_END || refuse();
        }

        /** A P of the grammar: since "that V P" ends it, it is a row of "Q N" with "that V" between. */
        private boolean takePhrases(Tape tape) {
            for (int i = 0; i <= MOST_PHRASES; i++) {
                if (!isOneOf(TOKEN_QUANTIFIER, QUANTIFIERS)) {
                    return refuse();
                }
                if (draft.phrases >= MOST_PHRASES) {
                    return refuseFifth();
                }
                int q = token - TOKEN_QUANTIFIER;
                readToken(tape);
                if (!isOneOf(TOKEN_NOUN, NOUNS)) {
                    return refuse();
                }
                draft.add(q, token - TOKEN_NOUN);
                readToken(tape);
                if (token != TOKEN_THAT) {
                    return true;
                }
                readToken(tape);
                if (!isOneOf(TOKEN_VERB, VERBS)) {
                    return refuse();
                }
                draft.makeLatestHost(token - TOKEN_VERB);
                readToken(tape);
            }
            return refuse();
        }

        private boolean isOneOf(int first, int kinds) {
            return token >= first && token < first + kinds;
        }

        private boolean refuse() {
            faultFound = token == TOKEN_NONE ? FAULT_NO_TOKEN : FAULT_MISPLACED;
            return false;
        }

        private boolean refuseFifth() {
            faultFound = FAULT_FIFTH;
            return false;
        }

        private void readToken(Tape tape) {
            while (behind < tape.length && tape.bytes[behind] == BLANK) {
                behind++;
            }
            tokenAt = behind;
            if (tokenAt >= tape.length) {
                token = TOKEN_END;
            } else if (tape.bytes[tokenAt] == ';') {
                token = TOKEN_STOP;
                behind++;
            } else if (!tape.hasLetter(tokenAt)) {
                token = TOKEN_NONE;
            } else {
                while (behind < tape.length && tape.hasLetter(behind)) {
                    behind++;
                }
                token = nameToken(tape, tokenAt, behind);
            }
        }

        private static int nameToken(Tape tape, int from, int to) {
            if (tape.spells(from, to, "that")) {
                return TOKEN_THAT;
            }
            if (tape.spells(from, to, "every")) {
                return TOKEN_QUANTIFIER;
            }
            if (tape.spells(from, to, "some")) {
                return TOKEN_QUANTIFIER + 1;
            }
            if (tape.spells(from, to, "no")) {
                return TOKEN_QUANTIFIER + 2;
            }
            if (tape.spells(from, to, "one")) {
                return TOKEN_QUANTIFIER + 3;
            }
            if (tape.spells(from, to, "man")) {
                return TOKEN_NOUN;
            }
            if (tape.spells(from, to, "dog")) {
                return TOKEN_NOUN + 1;
            }
            if (tape.spells(from, to, "sees")) {
                return TOKEN_VERB;
            }
            return tape.spells(from, to, "likes") ? TOKEN_VERB + 1 : TOKEN_UNKNOWN;
        }
    }

    /** The READINGS of a SENTENCE; cell r * MOST_PHRASES + i of a row is of READING r and PHRASE i. */
    private static final class Readings {
        int size;
        /** The place where each PHRASE is. */
        final int[] place;
        /** How many are ahead of it there. */
        final int[] rank;
        final int[] firstRow;
        private final int[] rowNow;
        /** Where in rowNow each PHRASE comes. */
        private final int[] turnNow;
        private final int[] placeNow;
        private final int[] rankNow;

        Readings() {
            size = 0;
            place = new int[MOST_READINGS * MOST_PHRASES];
            rank = new int[MOST_READINGS * MOST_PHRASES];
            firstRow = new int[MOST_READINGS * MOST_PHRASES];
            rowNow = new int[MOST_PHRASES];
            turnNow = new int[MOST_PHRASES];
            placeNow = new int[MOST_PHRASES];
            rankNow = new int[MOST_PHRASES];
        }

        /** Rows in order are numbers in order, with PHRASES as figures to the base of how many there are. */
        void list(Sentence sentence) {
            int phrases = sentence.phrases;
            int numbers = 1;
            for (int p = 0; p < phrases; p++) {
                numbers *= phrases;
            }
            size = 0;
            for (int number = 0; number < numbers; number++) {
                if (takeFigures(number, phrases, phrases)) {
                    placeAll(sentence);
                    if (find(phrases) == NONE) {
                        append(phrases);
                    }
                }
            }
        }

        /** Makes rowNow of a number's figures; false: they are not each PHRASE just once. */
        boolean takeFigures(int figures, int base, int phrases) {
            if (figures < 0 || base < 2) {
                return false;
            }
            int left = figures;
            int seen = 0;
            for (int i = phrases - 1; i >= 0; i--) {
                int p = left % base;
                left /= base;
                if (p >= phrases || (seen & (1 << p)) != 0) {
                    return false;
                }
                seen |= 1 << p;
                rowNow[i] = p;
                turnNow[p] = i;
            }
            return left == 0;
        }

        /** The READING that rowNow makes. A HOST has a lesser number than its guest: it is placed first. */
        void placeAll(Sentence sentence) {
            for (int x = 0; x < sentence.phrases; x++) {
                placeNow[x] = placeOf(sentence, x);
            }
            for (int x = 0; x < sentence.phrases; x++) {
                rankNow[x] = 0;
                for (int i = 0; i < turnNow[x]; i++) {
                    if (placeNow[rowNow[i]] == placeNow[x]) {
                        rankNow[x]++;
                    }
                }
            }
        }

        private int placeOf(Sentence sentence, int x) {
            int host = sentence.hostOf(x);
            if (host < 0 || host >= MOST_PHRASES) {
                return TOP;
            }
            if (turnNow[x] > turnNow[host]) {
                return host;
            }
            int where = placeNow[host];
            for (int i = 0; i < MOST_PHRASES; i++) {
                if (where < 0 || where >= MOST_PHRASES || turnNow[x] > turnNow[where]) {
                    return where;
                }
                where = placeNow[where];
            }
            return where;
        }

        /** The number of the READING that placeAll made, or NONE: it is not listed. */
        int find(int phrases) {
            for (int r = 0; r < size; r++) {
                if (isNow(r, phrases)) {
                    return r;
                }
            }
            return NONE;
        }

        private boolean isNow(int r, int phrases) {
            for (int p = 0; p < phrases; p++) {
                int cell = r * MOST_PHRASES + p;
                if (place[cell] != placeNow[p] || rank[cell] != rankNow[p]) {
                    return false;
                }
            }
            return true;
        }

        private void append(int phrases) {
            if (size >= MOST_READINGS) {
                return;
            }
            for (int p = 0; p < phrases; p++) {
                int cell = size * MOST_PHRASES + p;
                place[cell] = placeNow[p];
                rank[cell] = rankNow[p];
                firstRow[cell] = rowNow[p];
            }
            size++;
        }
    }

    /**
     * In which WORLDS READINGS HOLD. A word has a bit for each of up to 64 WORLDS with as many THINGS:
     * one walk through a READING answers for all of them.
     */
    private static final class Meaning {
        /** Cell r * WORDS + i: in which SMALL WORLDS of word i READING r HOLDS, once it is known. */
        private final long[] table;
        private final boolean[] known;
        /** Of each bit of a WORLD's tables, in which WORLDS of the word at hand it is 1. */
        private final long[] facts;
        private final int[] given;
        /** The first PHRASE of each place, and that behind each PHRASE, in the READING at hand. */
        private final int[] first;
        private final int[] next;
        private int size;

        Meaning() {
            table = new long[MOST_READINGS * WORDS];
            known = new boolean[MOST_READINGS];
            facts = new long[MOST_FACTS];
            given = new int[MOST_PHRASES];
            first = new int[PLACES];
            next = new int[MOST_PHRASES];
            size = 1;
        }

        void forget() {
            for (int r = 0; r < MOST_READINGS; r++) {
                known[r] = false;
            }
        }

        int holdsIn(Sentence sentence, Readings readings, int r, World w) {
            takeShape(readings, r, sentence.phrases);
            size = w.size;
            for (int j = 0; j < factsOf(size); j++) {
                facts[j] = w.fact(j);
            }
            return (int) walk(sentence, TOP, first[TOP], 0) & 1;
        }

        void learn(Sentence sentence, Readings readings, int r) {
            if (r < 0 || r >= MOST_READINGS || known[r]) {
                return;
            }
            takeShape(readings, r, sentence.phrases);
            for (int i = 0; i < WORDS; i++) {
                takeWord(i);
                long in = walk(sentence, TOP, first[TOP], 0);
                table[r * WORDS + i] = i == 0 ? in & WORD_OF_ONE : in;
            }
            known[r] = true;
        }

        int worldsOf(int r) {
            int worlds = 0;
            for (int i = 0; i < WORDS; i++) {
                worlds += Long.bitCount(table[r * WORDS + i]);
            }
            return worlds;
        }

        boolean sameWorlds(int a, int b) {
            for (int i = 0; i < WORDS; i++) {
                if (table[a * WORDS + i] != table[b * WORDS + i]) {
                    return false;
                }
            }
            return true;
        }

        int firstWorldWithout(int a, int b) {
            for (int i = 0; i < WORDS; i++) {
                long only = table[a * WORDS + i] & ~table[b * WORDS + i];
                if (only != 0L) {
                    int lowest = Long.bitCount((only & -only) - 1L);
                    return i == 0 ? lowest : SMALL_OF_ONE + (i - 1) * 64 + lowest;
                }
            }
            return NONE;
        }

        private void takeShape(Readings readings, int r, int phrases) {
            for (int i = 0; i < PLACES; i++) {
                first[i] = NOBODY;
            }
            for (int p = 0; p < phrases; p++) {
                int cell = r * MOST_PHRASES + p;
                next[p] = NOBODY;
                int at = readings.place[cell];
                if (readings.rank[cell] == 0 && at >= 0 && at < PLACES) {
                    first[at] = p;
                }
                for (int q = 0; q < phrases; q++) {
                    int other = r * MOST_PHRASES + q;
                    if (readings.place[other] == readings.place[cell]
                            && readings.rank[other] == readings.rank[cell] + 1) {
                        next[p] = q;
                    }
                }
            }
        }

        private void takeWord(int i) {
            size = i == 0 ? 1 : 2;
            for (int j = 0; j < factsOf(size); j++) {
                if (j < LOW_BITS.length) {
                    facts[j] = LOW_BITS[j];
                } else {
                    facts[j] = -(long) (((i - 1) >> (j - LOW_BITS.length)) & 1);
                }
            }
        }

        /** In which WORLDS a place does from its PHRASE x on; NOBODY: behind the last one. */
        private long walk(Sentence sentence, int at, int x, int depth) {
            if (x < 0 || x >= MOST_PHRASES) {
                return at >= 0 && at < MOST_PHRASES ? hostFact(sentence, at) : topFact(sentence);
            }
            // each level gives a THING to one PHRASE more, so that no READING goes deeper
            return depth >= MOST_PHRASES ? 0L : quantified(sentence, at, x, depth);
        }

        private long quantified(Sentence sentence, int at, int x, int depth) {
            long each = -1L;
            long once = 0L;
            long twice = 0L;
            for (int t = 0; t < size; t++) {
                given[x] = t;
                long good = walk(sentence, x, first[x], depth + 1);
                if (good != 0L) {
                    long rest = walk(sentence, at, next[x], depth + 1);
                    each &= ~good | rest;
                    twice |= once & good & rest;
                    once |= good & rest;
                }
            }
            switch (sentence.quantifier[x]) {
                case EVERY:
                    return each;
                case SOME:
                    return once;
                case NO:
                    return ~once;
                default:
                    return once & ~twice;
            }
        }

        private long topFact(Sentence sentence) {
            int object = sentence.objectAt;
            if (object < 0 || object >= MOST_PHRASES) {
                return 0L;
            }
            int j = verbFact(size, sentence.verb, given[0], given[object]);
            return j >= 0 && j < MOST_FACTS ? facts[j] : 0L;
        }

        private long hostFact(Sentence sentence, int host) {
            int i = nounFact(size, sentence.noun[host], given[host]);
            long isNoun = i >= 0 && i < MOST_FACTS ? facts[i] : 0L;
            int guest = sentence.guestOf(host);
            if (guest < 0 || guest >= MOST_PHRASES) {
                return isNoun;
            }
            int j = verbFact(size, sentence.hostVerb[host], given[host], given[guest]);
            return j >= 0 && j < MOST_FACTS ? isNoun & facts[j] : 0L;
        }
    }

    /** An IMAGE of the SENTENCE and THE WORLD. */
    private static final class Image {
        boolean kept;
        final Sentence keptSentence;
        final World keptWorld;

        Image() {
            kept = false;
            keptSentence = new Sentence();
            keptWorld = new World();
        }
    }

    /** A SHEET: a row of CELLS of a lane. A size below 0: nothing. */
    private static final class Sheet {
        int size;
        final int[] cells;
        private int laneNow;

        Sheet() {
            size = -1;
            cells = new int[MOST_CELLS];
            laneNow = 0;
        }

        void renew(int lane, int n) {
            laneNow = lane;
            size = n;
            for (int i = 0; i < MOST_CELLS; i++) {
                cells[i] = 0;
            }
        }

        int narrowed(int v) {
            switch (laneNow) {
                case 0:
                    return (byte) v;
                case 1:
                    return (short) v;
                default:
                    return v;
            }
        }

        /** What the machine would find in copying so many CELLS into a row of a lane; 0: nothing. */
        int copyFault(int lane, int from, int length) {
            if (size < 0) {
                return FAULT_NULL;
            }
            if (laneNow != lane) {
                return FAULT_STORE;
            }
            return from < 0 || from > size - length ? FAULT_INDEX : 0;
        }

        long lowestBits(int from, int length) {
            long bits = 0L;
            for (int j = 0; j < length; j++) {
                if (from + j >= 0 && from + j < size && (cells[from + j] & 1) == 1) {
                    bits |= 1L << j;
                }
            }
            return bits;
        }
    }
}
