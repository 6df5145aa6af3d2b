import java.util.ArrayList;
import java.util.BitSet;
import java.util.HashMap;
import java.util.List;
import java.util.Map;
import java.util.TreeMap;

/** The document word by word, slow and plain, with the library: what the class is held against. */
final class Model {
    private static final int BAD = -1, STATE = -2, FULL = -3, NONE = -4;

    private static final class Phrase {
        int quantifier, noun, host = NONE, verb = NONE, guest = NONE;

        Phrase copy() {
            Phrase p = new Phrase();
            p.quantifier = quantifier;
            p.noun = noun;
            p.host = host;
            p.verb = verb;
            p.guest = guest;
            return p;
        }
    }

    private static final class Told {
        List<Phrase> phrases = new ArrayList<>();
        int object, verb;

        Told copy() {
            Told t = new Told();
            for (Phrase p : phrases) {
                t.phrases.add(p.copy());
            }
            t.object = object;
            t.verb = verb;
            return t;
        }
    }

    private static final class Tables {
        final boolean[][] is;
        final boolean[][][] does;
        final int n;

        Tables(int n) {
            this.n = n;
            is = new boolean[2][n];
            does = new boolean[2][n][n];
        }

        static Tables of(int n, long number) {
            Tables w = new Tables(n);
            for (int noun = 0; noun < 2; noun++) {
                for (int t = 0; t < n; t++) {
                    w.is[noun][t] = number % 2 != 0;
                    number /= 2;
                }
            }
            for (int verb = 0; verb < 2; verb++) {
                for (int t = 0; t < n; t++) {
                    for (int u = 0; u < n; u++) {
                        w.does[verb][t][u] = number % 2 != 0;
                        number /= 2;
                    }
                }
            }
            return w;
        }

        Tables copy() {
            Tables w = new Tables(n);
            for (int i = 0; i < 2; i++) {
                w.is[i] = is[i].clone();
                for (int t = 0; t < n; t++) {
                    w.does[i][t] = does[i][t].clone();
                }
            }
            return w;
        }
    }

    @SuppressWarnings("serial")
    private static final class Fault extends Exception {
        final int kind, at;

        Fault(int kind, int at) {
            this.kind = kind;
            this.at = at;
        }
    }

    /** A READING: the PHRASES of each place in order (-1 is THE TOP), and the first row that makes it. */
    private static final class Scoped {
        final Map<Integer, List<Integer>> places = new TreeMap<>();
        List<Integer> row;

        int placeOf(int p) {
            for (Map.Entry<Integer, List<Integer>> e : places.entrySet()) {
                if (e.getValue().contains(p)) {
                    return e.getKey();
                }
            }
            throw new IllegalStateException();
        }
    }

    private static final Tables[] SMALL = new Tables[4128];
    static {
        for (int w = 0; w < 4128; w++) {
            SMALL[w] = w < 32 ? Tables.of(1, w) : Tables.of(2, w - 32);
        }
    }

    private StringBuilder tape = new StringBuilder();
    private Told told;
    private int fault = 0;
    private Tables world = new Tables(1);
    private final Told[] keptTold = new Told[2];
    private final Tables[] keptWorld = new Tables[2];
    private final Object[] sheets = new Object[4];
    private List<Scoped> readings;
    private Map<Integer, BitSet> holding = new HashMap<>();

    Model() {
        for (char c : "every man sees some dog;".toCharArray()) {
            feed(c);
        }
        text();
    }

    // ---- the text

    int feed(int c) {
        if (c < 0 || c > 127) return BAD;
        if (tape.length() + 1 > 200) return FULL;
        tape.append((char) c);
        return tape.length();
    }

    int end(int n) {
        if (n < 0 || n > tape.length()) return BAD;
        int had = tape.length();
        tape.setLength(n);
        return had;
    }

    private String text;
    private int from, to;
    private Told draft;

    private String token() throws Fault {
        from = to;
        while (from < text.length() && text.charAt(from) == ' ') from++;
        to = from;
        if (from == text.length()) return "";
        char c = text.charAt(from);
        if (c == ';') {
            to++;
            return ";";
        }
        if (c < 'a' || c > 'z') throw new Fault(1, from);
        while (to < text.length() && text.charAt(to) >= 'a' && text.charAt(to) <= 'z') to++;
        return text.substring(from, to);
    }

    private String ahead = null;

    private String look() throws Fault {
        if (ahead == null) ahead = token();
        return ahead;
    }

    private int one(String... words) throws Fault {
        for (int i = 0; i < words.length; i++) {
            if (words[i].equals(look())) {
                ahead = null;
                return i;
            }
        }
        throw new Fault(2, from);
    }

    private int takePhrase(int host) throws Fault {
        int q = one("every", "some", "no", "one");
        if (draft.phrases.size() == 4) throw new Fault(3, from);
        int number = draft.phrases.size();
        Phrase p = new Phrase();
        draft.phrases.add(p);
        p.quantifier = q;
        p.host = host;
        p.noun = one("man", "dog");
        if (look().equals("that")) {
            one("that");
            p.verb = one("sees", "likes");
            p.guest = takePhrase(number);
        }
        return number;
    }

    int text() {
        text = tape.toString();
        tape = new StringBuilder();
        to = 0;
        ahead = null;
        draft = new Told();
        try {
            takePhrase(NONE);
            draft.verb = one("sees", "likes");
            draft.object = takePhrase(NONE);
            one(";");
            one("");
        } catch (Fault f) {
            fault = f.kind;
            return -10 - f.at;
        }
        fault = 0;
        told = draft;
        relist();
        return told.phrases.size();
    }

    int fault() {
        return fault;
    }

    // ---- the sentence

    private int n() {
        return told.phrases.size();
    }

    int rule(int what) {
        switch (what) {
            case 0: return n();
            case 1: return told.object;
            case 2: return told.verb;
            case 3: return readings.size();
            case 4: {
                int unlike = 0;
                for (int r = 0; r < readings.size(); r++) {
                    if (alike(r) == r) unlike++;
                }
                return unlike;
            }
            case 5: return world.n;
            default: return BAD;
        }
    }

    int phrase(int p, int what) {
        if (p < 0 || p >= n() || what < 0 || what > 5) return BAD;
        Phrase x = told.phrases.get(p);
        if (what == 5) {
            int hosts = 0;
            for (int h = x.host; h != NONE; h = told.phrases.get(h).host) hosts++;
            return hosts;
        }
        return new int[] {x.quantifier, x.noun, x.host, x.verb, x.guest}[what];
    }

    int becomes(int p, int what, int v) {
        int was;
        if (what == 2) {
            if (v < 0 || v > 1) return BAD;
            was = told.verb;
            told.verb = v;
        } else {
            if (what < 0 || what > 2 || p < 0 || p >= n() || v < 0 || v > (what == 0 ? 3 : 1)) return BAD;
            Phrase x = told.phrases.get(p);
            was = what == 0 ? x.quantifier : x.noun;
            if (what == 0) x.quantifier = v;
            else x.noun = v;
        }
        holding = new HashMap<>();
        return was;
    }

    private long seed;

    private int got() {
        seed = seed * 1103515245 + 12345;
        return (int) ((seed >> 16) & 32767);
    }

    private int drawPhrase(int host, int most) {
        int number = draft.phrases.size();
        Phrase p = new Phrase();
        draft.phrases.add(p);
        p.host = host;
        p.quantifier = got() % 4;
        p.noun = got() % 2;
        int third = got() % 2;
        if (third == 0 && draft.phrases.size() <= most) {
            p.verb = got() % 2;
            p.guest = drawPhrase(number, most);
        }
        return number;
    }

    int draw(int s) {
        seed = s;
        draft = new Told();
        drawPhrase(NONE, 2);
        draft.verb = got() % 2;
        draft.object = drawPhrase(NONE, 3);
        told = draft;
        relist();
        return n();
    }

    // ---- readings

    private void relist() {
        readings = new ArrayList<>();
        holding = new HashMap<>();
        rows(new ArrayList<>());
    }

    private void rows(List<Integer> row) {
        if (row.size() == n()) {
            Scoped s = make(row);
            if (numberOf(s) < 0) readings.add(s);
            return;
        }
        for (int p = 0; p < n(); p++) {
            if (!row.contains(p)) {
                row.add(p);
                rows(row);
                row.remove(row.size() - 1);
            }
        }
    }

    private int numberOf(Scoped s) {
        for (int r = 0; r < readings.size(); r++) {
            if (readings.get(r).places.equals(s.places)) return r;
        }
        return -1;
    }

    private int where(int x, List<Integer> row) {
        int h = told.phrases.get(x).host;
        if (h == NONE) return -1;
        if (row.indexOf(x) > row.indexOf(h)) return h;
        int y = h;
        while (where(y, row) != -1 && row.indexOf(x) < row.indexOf(where(y, row))) y = where(y, row);
        return where(y, row);
    }

    private Scoped make(List<Integer> row) {
        Scoped s = new Scoped();
        s.row = new ArrayList<>(row);
        for (int x : row) {
            s.places.computeIfAbsent(where(x, row), k -> new ArrayList<>()).add(x);
        }
        return s;
    }

    private boolean none(int r) {
        return r < 0 || r >= readings.size();
    }

    int within(int r, int p) {
        if (none(r) || p < 0 || p >= n()) return BAD;
        int place = readings.get(r).placeOf(p);
        return place == -1 ? NONE : place;
    }

    int ahead(int r, int p) {
        if (none(r) || p < 0 || p >= n()) return BAD;
        return readings.get(r).places.get(readings.get(r).placeOf(p)).indexOf(p);
    }

    int row(int r, int i) {
        if (none(r) || i < 0 || i >= n()) return BAD;
        return readings.get(r).row.get(i);
    }

    int reading(int figures) {
        if (figures < 0) return BAD;
        String f = Integer.toString(figures);
        while (f.length() < n()) f = "0" + f;
        if (f.length() > n()) return BAD;
        List<Integer> row = new ArrayList<>();
        for (char c : f.toCharArray()) {
            if (c - '0' >= n() || row.contains(c - '0')) return BAD;
            row.add(c - '0');
        }
        return numberOf(make(row));
    }

    private boolean place(Scoped s, int place, int i, Map<Integer, Integer> given, Tables w) {
        List<Integer> here = s.places.getOrDefault(place, List.of());
        if (i == here.size()) {
            if (place == -1) return w.does[told.verb][given.get(0)][given.get(told.object)];
            Phrase h = told.phrases.get(place);
            return w.is[h.noun][given.get(place)]
                && (h.guest == NONE || w.does[h.verb][given.get(place)][given.get(h.guest)]);
        }
        int x = here.get(i);
        int good = 0;
        int does = 0;
        for (int t = 0; t < w.n; t++) {
            Map<Integer, Integer> more = new HashMap<>(given);
            more.put(x, t);
            if (place(s, x, 0, more, w)) {
                good++;
                if (place(s, place, i + 1, more, w)) does++;
            }
        }
        switch (told.phrases.get(x).quantifier) {
            case 0: return does == good;
            case 1: return does >= 1;
            case 2: return does == 0;
            default: return does == 1;
        }
    }

    private boolean holdsIn(int r, Tables w) {
        return place(readings.get(r), -1, 0, new HashMap<>(), w);
    }

    private BitSet small(int r) {
        return holding.computeIfAbsent(r, k -> {
            BitSet b = new BitSet();
            for (int w = 0; w < 4128; w++) b.set(w, holdsIn(r, SMALL[w]));
            return b;
        });
    }

    int holds(int r) {
        return none(r) ? BAD : holdsIn(r, world) ? 1 : 0;
    }

    int small(int r, int w) {
        return none(r) || w < 0 || w > 4127 ? BAD : holdsIn(r, SMALL[w]) ? 1 : 0;
    }

    int many(int r) {
        return none(r) ? BAD : small(r).cardinality();
    }

    int alike(int r) {
        if (none(r)) return BAD;
        for (int q = 0; q < r; q++) {
            if (small(q).equals(small(r))) return q;
        }
        return r;
    }

    private int only(int a, int b) {
        BitSet s = (BitSet) small(a).clone();
        s.andNot(small(b));
        return s.nextSetBit(0);
    }

    int entails(int a, int b) {
        return none(a) || none(b) ? BAD : only(a, b) < 0 ? 1 : 0;
    }

    int most(int what) {
        if (what < 0 || what > 1) return BAD;
        for (int r = 0; r < readings.size(); r++) {
            boolean all = true;
            for (int q = 0; q < readings.size(); q++) {
                all &= (what == 0 ? entails(q, r) : entails(r, q)) == 1;
            }
            if (all) return r;
        }
        return NONE;
    }

    int witness(int a, int b) {
        if (none(a) || none(b)) return BAD;
        int w = only(a, b);
        if (w < 0) return NONE;
        world = SMALL[w].copy();
        return w;
    }

    // ---- the world

    int world(int w) {
        if (w < 0 || w > 4127) return BAD;
        world = SMALL[w].copy();
        return world.n;
    }

    int things(int n) {
        if (n < 1 || n > 4) return BAD;
        int had = world.n;
        world = new Tables(n);
        return had;
    }

    private boolean noThing(int t) {
        return t < 0 || t >= world.n;
    }

    int is(int noun, int t, int v) {
        if (noun < 0 || noun > 1 || noThing(t) || v < 0 || v > 1) return BAD;
        boolean was = world.is[noun][t];
        world.is[noun][t] = v == 1;
        return was ? 1 : 0;
    }

    int does(int verb, int t, int u, int v) {
        if (verb < 0 || verb > 1 || noThing(t) || noThing(u) || v < 0 || v > 1) return BAD;
        boolean was = world.does[verb][t][u];
        world.does[verb][t][u] = v == 1;
        return was ? 1 : 0;
    }

    int told(int what, int t, int u) {
        if (what < 0 || what > 3 || noThing(t) || (what > 1 && noThing(u))) return BAD;
        return (what < 2 ? world.is[what][t] : world.does[what - 2][t][u]) ? 1 : 0;
    }

    // ---- images, sheets

    int keep(int k) {
        if (k < 0 || k > 1) return BAD;
        int was = keptTold[k] == null ? 0 : 1;
        keptTold[k] = told.copy();
        keptWorld[k] = world.copy();
        return was;
    }

    int back(int k) {
        if (k < 0 || k > 1) return BAD;
        if (keptTold[k] == null) return STATE;
        told = keptTold[k].copy();
        world = keptWorld[k].copy();
        relist();
        return n();
    }

    private static Object newRow(int lane, int n) {
        return lane == 0 ? new byte[n] : lane == 1 ? (Object) new short[n] : new int[n];
    }

    /** Here the machine itself finds the FAULTS. */
    int sheet(int k, int lane, int n) {
        if (k < 0 || k > 3 || lane < 0 || lane > 2 || n > 50) return BAD;
        try {
            sheets[k] = newRow(lane, n);
            return 1;
        } catch (NegativeArraySizeException e) {
            return -14;
        }
    }

    int lay(int k, int i, int v) {
        if (k < 0 || k > 3) return BAD;
        try {
            if (sheets[k] instanceof short[]) ((short[]) sheets[k])[i] = (short) v;
            else if (sheets[k] instanceof int[]) ((int[]) sheets[k])[i] = v;
            else ((byte[]) sheets[k])[i] = (byte) v;
            return 1;
        } catch (NullPointerException e) {
            return -11;
        } catch (ArrayIndexOutOfBoundsException e) {
            return -13;
        }
    }

    int read(int k, int lane, int f, int n) {
        if (k < 0 || k > 3 || lane < 0 || lane > 2 || n < 1 || n > 4) return BAD;
        int length = 2 * n + 2 * n * n;
        Object row = newRow(lane, length);
        try {
            System.arraycopy(sheets[k], f, row, 0, length);
        } catch (NullPointerException e) {
            return -11;
        } catch (ArrayStoreException e) {
            return -12;
        } catch (IndexOutOfBoundsException e) {
            return -13;
        }
        long number = 0;
        for (int i = length - 1; i >= 0; i--) {
            number = number * 2 + (java.lang.reflect.Array.getLong(row, i) & 1);
        }
        world = Tables.of(n, number);
        return n;
    }

    int count(int what) {
        switch (what) {
            case 0: return (keptTold[0] == null ? 0 : 1) + (keptTold[1] == null ? 0 : 1);
            case 1: return tape.length();
            case 2: return sheets[0] == null ? NONE : java.lang.reflect.Array.getLength(sheets[0]);
            default: return BAD;
        }
    }
}
