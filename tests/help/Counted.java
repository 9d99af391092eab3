/**
 * RowRules with its calls counted: the document promises nothing of an object behind its 512th call, so no test may
 * ask for more. Beside the face it has what many tests build.
 */
final class Counted {
    static final int MOST_CALLS = 512;

    private final RowRules x = new RowRules();
    private int calls;

    private RowRules call() {
        if (calls >= MOST_CALLS) {
            throw new IllegalStateException("this test calls one object more than " + MOST_CALLS + " times");
        }
        calls++;
        return x;
    }

    int callsLeft() {
        return MOST_CALLS - calls;
    }

    // ---- the face

    int set(int letters, int states) { return call().set(letters, states); }
    int way(int set, int from, int letter, int to) { return call().way(set, from, letter, to); }
    int unway(int set, int from, int letter, int to) { return call().unway(set, from, letter, to); }
    int empty() { return call().empty(); }
    int letter(int l) { return call().letter(l); }
    int letterAt(int i) { return call().letterAt(i); }
    int forbid() { return call().forbid(); }
    int unforbid() { return call().unforbid(); }
    int byWords(int letters) { return call().byWords(letters); }
    int about(int set, int what) { return call().about(set, what); }
    int live(int set, int state) { return call().live(set, state); }
    int may(int set) { return call().may(set); }
    long howMany(int set, int n) { return call().howMany(set, n); }
    long loops(int set, int n) { return call().loops(set, n); }
    int rounds(int set, int n) { return call().rounds(set, n); }
    long growth(int set, int t, int what) { return call().growth(set, t, what); }
    int same(int set, int other) { return call().same(set, other); }
    int part(int set, int state) { return call().part(set, state); }
    int pace(int set, int state) { return call().pace(set, state); }
    int window(int w) { return call().window(w); }
    int tells(int row, int letter) { return call().tells(row, letter); }
    int maps(int set, int into) { return call().maps(set, into); }
    int weights(int set, int p, int q, int most) { return call().weights(set, p, q, most); }
    int weight(int set, int p, int q, int most, int state) { return call().weight(set, p, q, most, state); }
    int count(int what) { return call().count(what); }
    long digest() { return call().digest(); }

    // ---- what many tests build

    /** It holds what Held.filled tells. */
    static Counted filled() {
        Counted x = new Counted();
        x.golden();
        x.all(3);
        x.spell(0, 1, 0);
        x.window(2);
        x.tells(5, 1);
        return x;
    }

    /** THE WORD is these LETTERS, and no others. */
    void spell(int... letters) {
        empty();
        for (int l : letters) {
            letter(l);
        }
    }

    /** THE WORD by its LETTERS, as they are asked for one by one. */
    String word() {
        StringBuilder text = new StringBuilder();
        int length = count(1);
        for (int i = 0; i < length; i++) {
            text.append(letterAt(i));
        }
        return text.toString();
    }

    /** Just these WORDS are FORBIDDEN then; THE WORD is empty. */
    void forbidJust(int[]... words) {
        unforbid();
        for (int[] word : words) {
            spell(word);
            forbid();
        }
        empty();
    }

    int byForbidding(int letters, int[]... words) {
        forbidJust(words);
        return byWords(letters);
    }

    /** Two LETTERS, no two 1 one behind the other. */
    int golden() {
        return byForbidding(2, new int[] {1, 1});
    }

    /** A SET with these WAYS: from, LETTER, to. */
    int graph(int letters, int states, int[]... ways) {
        int set = set(letters, states);
        for (int[] way : ways) {
            way(set, way[0], way[1], way[2]);
        }
        return set;
    }

    /** A SET of sixteen STATES: by LETTER and STATE the bits of the STATES to which WAYS lead. */
    int byBits(int[][] ends) {
        int set = set(2, 16);
        for (int letter = 0; letter < 2; letter++) {
            for (int from = 0; from < 16; from++) {
                for (int to = 0; to < 16; to++) {
                    if ((ends[letter][from] >> to & 1) != 0) {
                        way(set, from, letter, to);
                    }
                }
            }
        }
        return set;
    }

    /** One STATE with a WAY to itself with each LETTER: all WORDS MAY STAND. */
    int all(int letters) {
        return only(letters, letters);
    }

    /** One STATE with a WAY to itself with each of the first LETTERS. */
    int only(int letters, int first) {
        int set = set(letters, 1);
        for (int l = 0; l < first; l++) {
            way(set, 0, l, 0);
        }
        return set;
    }

    /** All STATES turn on by a LETTER; by LETTER 1 the last one is lost. */
    int losingRing(int states) {
        int set = set(2, states);
        for (int s = 0; s < states; s++) {
            way(set, s, 0, (s + 1) % states);
            if (s < states - 1) {
                way(set, s, 1, s + 1);
            }
        }
        return set;
    }

    /**
     * Two rings that turn by 0, of 5 and 6 STATES; 1 leads to the first STATE of both, but from the one n STATES
     * behind it in each it does not: 1, n times 0, 1 is the shortest WORD that MAY NOT STAND (n 0 .. 29).
     */
    int rings(int n) {
        int set = set(2, 11);
        for (int s = 0; s < 5; s++) {
            way(set, s, 0, (s + 1) % 5);
            wayBack(set, s, s != n % 5);
        }
        for (int s = 0; s < 6; s++) {
            way(set, 5 + s, 0, 5 + (s + 1) % 6);
            wayBack(set, 5 + s, s != n % 6);
        }
        return set;
    }

    private void wayBack(int set, int from, boolean leads) {
        if (leads) {
            way(set, from, 1, 0);
            way(set, from, 1, 5);
        }
    }
}
