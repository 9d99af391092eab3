/** For each promise of the document: ordinary inputs, the edges that it names, and wrong inputs. */
public final class Promises {
    private static final int BAD = RowRules.BAD, NO = RowRules.NO, FULL = RowRules.FULL, SPENT = RowRules.SPENT, NONE = RowRules.NONE;
    private static final int TOP = Integer.MAX_VALUE, LOW = Integer.MIN_VALUE;
    private static int wrong = 0;

    private static void due(String what, long got, long want) {
        if (got != want) {
            wrong++;
            System.out.println(what + " answered " + got + ", due is " + want);
        }
    }

    public static void main(String[] args) {
        newObject();
        set();
        way();
        unway();
        emptyLetterLetterAt();
        forbidUnforbid();
        byWords();
        about();
        live();
        may();
        howMany();
        loops();
        rounds();
        growth();
        same();
        sameWordIsLong();
        sameIsSpent();
        partPace();
        windowTells();
        maps();
        mapsIsSpent();
        weightsWeight();
        count();
        digest();
        refusedChangesNothing();
        System.out.println(wrong == 0 ? "all promises hold" : wrong + " answers are not as due");
        if (wrong != 0) {
            System.exit(1);
        }
    }

    // ---- sets of states and ways that many promises are asked about

    private static void spell(RowRules x, int... letters) {
        x.empty();
        for (int l : letters) {
            x.letter(l);
        }
    }

    private static int byForbidding(RowRules x, int k, int[]... words) {
        x.unforbid();
        for (int[] w : words) {
            spell(x, w);
            x.forbid();
        }
        x.empty();
        return x.byWords(k);
    }

    /** Ways by letter and state, as the bits of where they lead. */
    private static int graph(RowRules x, int states, int[]... ends) {
        int set = x.set(Math.max(2, ends.length), states);
        for (int l = 0; l < ends.length; l++) {
            for (int from = 0; from < states; from++) {
                for (int to = 0; to < states; to++) {
                    if ((ends[l][from] >> to & 1) != 0) {
                        due("way", x.way(set, from, l, to), 1);
                    }
                }
            }
        }
        return set;
    }

    private static int all(RowRules x, int k) {
        int set = x.set(k, 1);
        for (int l = 0; l < k; l++) {
            x.way(set, 0, l, 0);
        }
        return set;
    }

    /** All turn on by a LETTER; by LETTER 1 the last is lost: all sets of states but the empty one are met first. */
    private static int losingRing(RowRules x, int states) {
        int set = x.set(2, states);
        for (int s = 0; s < states; s++) {
            x.way(set, s, 0, (s + 1) % states);
            if (s < states - 1) {
                x.way(set, s, 1, s + 1);
            }
        }
        return set;
    }

    // ---- promise 1

    private static void newObject() {
        RowRules x = new RowRules();
        due("1: SETS", x.count(0), 0);
        due("1: LETTERS", x.count(1), 0);
        due("1: FORBIDDEN", x.count(2), 0);
        due("1: w", x.count(3), 1);
        due("1: first LETTER", x.letterAt(0), NONE);
        for (int row = 0; row < 4; row++) {
            due("1: WINDOW tells", x.tells(row, 0), 0);
        }
        long h = 193;
        for (int v : new int[] {0, 0, 0, 1, 0, 0, 0, 0}) {
            h = 31 * h + v;
        }
        due("1: digest", x.digest(), h);
        due("constants", NONE * 10000 + BAD * 1000 + NO * 100 + FULL * 10 + SPENT, -12345);
    }

    // ---- promise 2

    private static void set() {
        RowRules x = new RowRules();
        int[][] odd = {{1, 1}, {5, 1}, {0, 1}, {-1, 1}, {TOP, 1}, {LOW, 1}, {2, 0}, {2, 17}, {2, -1}, {4, TOP}, {4, LOW}};
        for (int[] o : odd) {
            due("2: set BAD", x.set(o[0], o[1]), BAD);
        }
        due("2: none yet", x.count(0), 0);
        int[][] fit = {{2, 1}, {2, 16}, {3, 7}, {4, 1}, {4, 16}, {3, 16}};
        for (int i = 0; i < fit.length; i++) {
            due("2: set", x.set(fit[i][0], fit[i][1]), i);
            due("2: LETTERS", x.about(i, 0), fit[i][0]);
            due("2: STATES", x.about(i, 1), fit[i][1]);
            due("2: WAYS", x.about(i, 2), 0);
        }
        due("2: FULL", x.set(2, 1), FULL);
        due("2: BAD before FULL", x.set(5, 1), BAD);
        due("2: BAD before FULL", x.set(2, 17), BAD);
        due("2: six", x.count(0), 6);
    }

    // ---- promises 3, 4

    private static void way() {
        RowRules x = new RowRules();
        due("3: no SET", x.way(0, 0, 0, 0), BAD);
        x.set(3, 4);
        due("3: way", x.way(0, 0, 2, 3), 1);
        due("3: again", x.way(0, 0, 2, 3), NO);
        due("3: another STATE", x.way(0, 0, 2, 2), 1);
        due("3: another LETTER", x.way(0, 0, 1, 3), 1);
        due("3: from another", x.way(0, 3, 2, 3), 1);
        due("3: WAYS", x.about(0, 2), 4);
        int[][] odd = {{1, 0, 0, 0}, {-1, 0, 0, 0}, {6, 0, 0, 0}, {TOP, 0, 0, 0}, {LOW, 0, 0, 0}, {0, 4, 0, 0}, {0, -1, 0, 0},
            {0, 0, 3, 0}, {0, 0, -1, 0}, {0, 0, 0, 4}, {0, 0, 0, -1}, {0, TOP, 0, 0}, {0, 0, LOW, 0}, {0, 0, 0, TOP}};
        for (int[] o : odd) {
            due("3: way BAD", x.way(o[0], o[1], o[2], o[3]), BAD);
            due("4: unway BAD", x.unway(o[0], o[1], o[2], o[3]), BAD);
        }
        due("3: WAYS still", x.about(0, 2), 4);
        x.set(4, 16);
        for (int f = 0; f < 16; f++) {
            for (int l = 0; l < 4; l++) {
                for (int t = 0; t < 16; t++) {
                    due("3: all WAYS", x.way(1, f, l, t), 1);
                }
            }
        }
        due("3: all WAYS are", x.about(1, 2), 1024);
        due("3: all WAYS are LIVE", x.about(1, 4), 1024);
    }

    private static void unway() {
        RowRules x = new RowRules();
        x.set(2, 2);
        due("4: none", x.unway(0, 0, 0, 0), NO);
        x.way(0, 0, 0, 0);
        x.way(0, 0, 0, 1);
        x.way(0, 1, 0, 0);
        due("4: LIVE before", x.about(0, 3), 2);
        due("4: the other way round", x.unway(0, 1, 0, 1), NO);
        due("4: goes", x.unway(0, 0, 0, 1), 1);
        due("4: gone", x.unway(0, 0, 0, 1), NO);
        due("4: WAYS", x.about(0, 2), 2);
        due("4: LIVE behind", x.about(0, 3), 1);
        due("4: comes again", x.way(0, 0, 0, 1), 1);
        due("4: LIVE again", x.about(0, 3), 2);
    }

    // ---- promises 5, 6, 7

    private static void emptyLetterLetterAt() {
        RowRules x = new RowRules();
        due("5: empty", x.empty(), 0);
        for (int l : new int[] {-1, 4, TOP, LOW}) {
            due("6: BAD", x.letter(l), BAD);
        }
        for (int i = 0; i < 30; i++) {
            due("6: letter", x.letter(i * 7 / 3 & 3), i + 1);
        }
        due("6: FULL", x.letter(0), FULL);
        due("6: BAD before FULL", x.letter(4), BAD);
        for (int i = 0; i < 30; i++) {
            due("7: letterAt", x.letterAt(i), i * 7 / 3 & 3);
        }
        for (int i : new int[] {30, 31, TOP, -1, LOW}) {
            due("7: NONE", x.letterAt(i), NONE);
        }
        due("5: thirty", x.empty(), 30);
        due("5: then none", x.empty(), 0);
        due("7: none behind", x.letterAt(0), NONE);
        due("6: anew", x.letter(3), 1);
        due("7: anew", x.letterAt(0), 3);
        due("7: but one", x.letterAt(1), NONE);
    }

    // ---- promises 8, 9

    private static void forbidUnforbid() {
        RowRules x = new RowRules();
        due("9: none", x.unforbid(), 0);
        due("8: empty", x.forbid(), NO);
        spell(x, 0, 1, 2, 3, 0, 1);
        due("8: six LETTERS", x.forbid(), NO);
        spell(x, 0, 1, 2, 3, 0);
        due("8: five LETTERS", x.forbid(), 1);
        due("8: THE WORD stays", x.count(1), 5);
        due("8: alike", x.forbid(), 2);
        spell(x, 3);
        for (int i = 3; i <= 8; i++) {
            due("8: forbid", x.forbid(), i);
        }
        due("8: FULL", x.forbid(), FULL);
        x.empty();
        due("8: NO before FULL", x.forbid(), NO);
        due("8: eight", x.count(2), 8);
        due("9: eight", x.unforbid(), 8);
        due("9: none any more", x.unforbid(), 0);
        due("9: count", x.count(2), 0);
        due("9: none FORBIDDEN", x.byWords(2), 0);
        due("9: all WAYS", x.about(0, 2), 4);
        x.letter(1);
        due("8: anew", x.forbid(), 1);
        x.empty();
        x.letter(0);
        due("8: kept though THE WORD goes on", x.byWords(2), 1);
        due("8: the first is FORBIDDEN", x.about(1, 4), 1);
        due("8: 0 MAY STAND", x.may(1), 1);
    }

    // ---- promise 10

    private static void byWords() {
        RowRules x = new RowRules();
        for (int k : new int[] {1, 5, 0, -1, TOP, LOW}) {
            due("10: BAD", x.byWords(k), BAD);
        }
        due("10: none FORBIDDEN", x.byWords(4), 0);
        due("10: STATES of one LETTER", x.about(0, 1), 4);
        due("10: all WAYS", x.about(0, 4), 16);
        due("10: golden", byForbidding(x, 2, new int[] {1, 1}), 1);
        due("10: 0 to 0", x.unway(1, 0, 0, 0), 1);
        due("10: 0 to 1", x.unway(1, 0, 1, 1), 1);
        due("10: 1 to 0", x.unway(1, 1, 0, 0), 1);
        due("10: no more", x.about(1, 2), 0);
        due("10: five LETTERS of two", byForbidding(x, 2, new int[] {1, 0, 0, 1, 1}), 2);
        due("10: sixteen STATES", x.about(2, 1), 16);
        due("10: one WAY less", x.about(2, 2), 31);
        due("10: the row 1001 has no WAY by 1", x.way(2, 9, 1, 3), 1);
        due("10: the first LETTER is highest", x.way(2, 9, 0, 2), NO);
        due("10: three of four LETTERS", byForbidding(x, 4, new int[] {3, 2, 1}), 3);
        due("10: sixteen STATES", x.about(3, 1), 16);
        due("10: row 32 has no WAY by 1 to 21", x.unway(3, 14, 1, 9), NO);
        due("10: row 32 has one by 0 to 20", x.unway(3, 14, 0, 8), 1);
        due("10: above 16", byForbidding(x, 3, new int[] {0, 1, 0, 1}), NO);
        due("10: above 16", byForbidding(x, 4, new int[] {0, 1, 0, 1}), NO);
        due("10: fits two", x.byWords(2), 4);
        due("10: eight STATES", x.about(4, 1), 8);
        due("10: a LETTER that it has not", byForbidding(x, 2, new int[] {0}, new int[] {0, 2}), BAD);
        due("10: BAD before NO", byForbidding(x, 3, new int[] {0, 1, 0, 1}, new int[] {3}), BAD);
        due("10: one of one LETTER", byForbidding(x, 3, new int[] {1}), 5);
        due("10: three STATES", x.about(5, 1), 3);
        due("10: without 1", x.about(5, 2), 4);
        due("10: FULL", x.byWords(3), FULL);
        due("10: NO before FULL", byForbidding(x, 3, new int[] {0, 1, 0, 1}), NO);
        due("10: BAD before FULL", byForbidding(x, 2, new int[] {2}), BAD);
        shortAmongLong();
    }

    /** A short FORBIDDEN WORD bars ways wherever it stands in the m LETTERS. */
    private static void shortAmongLong() {
        RowRules x = new RowRules();
        byForbidding(x, 2, new int[] {1, 1}, new int[] {0, 0, 0, 0});
        due("10: m is 4", x.about(0, 1), 8);
        due("10: rows of 4 LETTERS without both", x.about(0, 2), 7);
        due("10: 010 by 1", x.unway(0, 2, 1, 5), 1);
        due("10: 110 by 0 has 11 first", x.unway(0, 6, 0, 4), NO);
        due("10: 011 by 0 has 11 amid", x.unway(0, 3, 0, 6), NO);
        due("10: 101 by 1 has 11 last", x.unway(0, 5, 1, 3), NO);
        due("10: 000 by 0", x.unway(0, 0, 0, 0), NO);
        due("10: 000 by 1", x.unway(0, 0, 1, 1), 1);
    }

    // ---- promises 11, 12

    private static void about() {
        RowRules x = new RowRules();
        due("11: no SET", x.about(0, 0), BAD);
        x.set(3, 5);
        // 0 leads to 1, 1 and 2 to one another, 2 to 3, 4 to itself
        x.way(0, 0, 0, 1);
        x.way(0, 1, 1, 2);
        x.way(0, 2, 0, 1);
        x.way(0, 2, 0, 3);
        x.way(0, 4, 2, 4);
        int[] want = {3, 5, 5, 3, 3, 2};
        for (int what = 0; what <= 5; what++) {
            due("11: about " + what, x.about(0, what), want[what]);
        }
        for (int odd : new int[] {-1, 6, TOP, LOW}) {
            due("11: BAD what", x.about(0, odd), BAD);
            due("11: BAD SET", x.about(odd, 0), BAD);
        }
        x.way(0, 1, 2, 4);
        due("11: from PART to PART", x.about(0, 4), 4);
        due("11: two PARTS", x.about(0, 5), 2);
        x.set(2, 3);
        due("11: nothing LIVE", x.about(1, 5), 0);
        x.way(1, 0, 0, 0);
        x.way(1, 0, 0, 1);
        x.way(1, 1, 0, 2);
        x.way(1, 2, 0, 2);
        due("11: alone amid", x.about(1, 5), 3);
    }

    private static void live() {
        RowRules x = new RowRules();
        due("12: no SET", x.live(0, 0), BAD);
        x.set(2, 6);
        for (int s = 0; s < 5; s++) {
            x.way(0, s, s & 1, s + 1);
        }
        for (int s = 0; s < 6; s++) {
            due("12: a chain dies", x.live(0, s), 0);
        }
        x.way(0, 3, 0, 2);
        int[] want = {0, 0, 1, 1, 0, 0};
        for (int s = 0; s < 6; s++) {
            due("12: what only leads there, or is led to, goes", x.live(0, s), want[s]);
        }
        x.way(0, 5, 0, 5);
        due("12: between two", x.live(0, 4), 1);
        for (int odd : new int[] {-1, 6, TOP, LOW}) {
            due("12: BAD STATE", x.live(0, odd), BAD);
            due("12: BAD SET", x.live(odd, 0), BAD);
        }
    }

    // ---- promise 13

    private static void may() {
        RowRules x = new RowRules();
        due("13: no SET", x.may(0), BAD);
        x.set(2, 4);
        due("13: nothing LIVE, no LETTERS", x.may(0), 0);
        x.way(0, 0, 0, 1);
        x.way(0, 1, 1, 0);
        x.way(0, 2, 1, 0);
        x.way(0, 2, 1, 2);
        x.way(0, 1, 1, 3);
        due("13: no LETTERS", x.may(0), 1);
        spell(x, 1, 1, 1, 0, 1, 0, 1);
        due("13: stands", x.may(0), 1);
        spell(x, 0, 0);
        due("13: does not", x.may(0), 0);
        spell(x, 0, 1, 1);
        due("13: only by what is not LIVE", x.may(0), 0);
        spell(x, 2);
        due("13: a LETTER that it has not", x.may(0), 0);
        spell(x, 1, 3);
        due("13: a LETTER that it has not", x.may(0), 0);
        for (int i = 0; i < 30; i++) {
            x.letter(1);
        }
        due("13: BAD", x.may(-1), BAD);
        due("13: BAD", x.may(1), BAD);
        due("13: BAD", x.may(TOP), BAD);
    }

    // ---- promises 14, 15, 16, 17

    private static void howMany() {
        RowRules x = new RowRules();
        due("14: no SET", x.howMany(0, 0), BAD);
        all(x, 4);
        due("14: all of 24", x.howMany(0, 24), 1L << 48);
        due("14: all of 0", x.howMany(0, 0), 1);
        x.set(4, 16);
        due("14: nothing LIVE", x.howMany(1, 0), 0);
        due("14: nothing LIVE", x.howMany(1, 24), 0);
        byForbidding(x, 2, new int[] {1, 1});
        long a = 1, b = 2;
        for (int n = 0; n <= 24; n++) {
            due("14: golden " + n, x.howMany(2, n), a);
            long c = a + b;
            a = b;
            b = c;
        }
        // two WAYS with one LETTER make but one WORD
        x.set(2, 2);
        x.way(3, 0, 0, 0);
        x.way(3, 0, 0, 1);
        x.way(3, 1, 0, 0);
        x.way(3, 1, 0, 1);
        due("14: WORDS, not rows of WAYS", x.howMany(3, 10), 1);
        int ring = losingRing(x, 16);
        due("14: all sets of STATES", x.howMany(ring, 15), 1 << 15);
        due("14: but the one that loses all", x.howMany(ring, 16), (1 << 16) - 1);
        // bit by bit sixteen LETTERS in a row may not all be 1
        due("14: no run of sixteen", x.howMany(ring, 24), withoutRun(16, 24));
        for (int odd : new int[] {-1, 25, TOP, LOW}) {
            due("14: BAD n", x.howMany(0, odd), BAD);
        }
        for (int odd : new int[] {-1, 5, TOP, LOW}) {
            due("14: BAD SET", x.howMany(odd, 0), BAD);
        }
    }

    /**
     * WORDS of n LETTERS (up to 31) that leave one of r STATES in the losing ring: STATE s is at the last place
     * before LETTERS r - 1 - s, 2 r - 1 - s, .. so it is left if none of these is 1.
     */
    private static long withoutRun(int r, int n) {
        long sum = 0;
        for (int word = 0; word < 1 << n; word++) {
            int lost = 0;
            for (int i = 0; i < n; i++) {
                lost |= (word >> i & 1) << i % r;
            }
            if (lost != (1 << r) - 1) {
                sum++;
            }
        }
        return sum;
    }

    private static void loops() {
        RowRules x = new RowRules();
        due("15: no SET", x.loops(0, 1), BAD);
        x.set(4, 16);
        due("15: none", x.loops(0, 10), 0);
        for (int f = 0; f < 16; f++) {
            for (int l = 0; l < 4; l++) {
                for (int t = 0; t < 16; t++) {
                    x.way(0, f, l, t);
                }
            }
        }
        long want = 1;
        for (int n = 1; n <= 10; n++) {
            want *= 64;
            due("15: all " + n, x.loops(0, n), want);
        }
        byForbidding(x, 2, new int[] {1, 1});
        int[] lucas = {1, 3, 4, 7, 11, 18, 29, 47, 76, 123};
        for (int n = 1; n <= 10; n++) {
            due("15: golden " + n, x.loops(1, n), lucas[n - 1]);
        }
        // a ring of three: each row told by where it begins
        x.set(2, 4);
        x.way(2, 0, 0, 1);
        x.way(2, 1, 0, 2);
        x.way(2, 2, 0, 0);
        x.way(2, 2, 0, 3);
        due("15: ring by 3", x.loops(2, 3), 3);
        due("15: ring by 4", x.loops(2, 4), 0);
        x.way(2, 2, 1, 0);
        due("15: two WAYS back", x.loops(2, 3), 6);
        due("15: two WAYS back, twice", x.loops(2, 6), 12);
        for (int odd : new int[] {0, -1, 11, TOP, LOW}) {
            due("15: BAD n", x.loops(0, odd), BAD);
        }
        due("15: BAD SET", x.loops(3, 1), BAD);
        due("15: BAD SET", x.loops(-1, 1), BAD);
    }

    private static void rounds() {
        RowRules x = new RowRules();
        due("16: no SET", x.rounds(0, 1), BAD);
        all(x, 4);
        due("16: all", x.rounds(0, 7), 1 << 14);
        x.set(2, 3);
        due("16: none", x.rounds(1, 3), 0);
        x.way(1, 0, 0, 1);
        x.way(1, 1, 1, 0);
        due("16: 01, 10", x.rounds(1, 2), 2);
        due("16: odd", x.rounds(1, 3), 0);
        due("16: 0101, 1010", x.rounds(1, 4), 2);
        // rows of WAYS may be longer than the row of LETTERS: 000.. goes round in a ring of three
        x.set(2, 3);
        x.way(2, 0, 0, 1);
        x.way(2, 1, 0, 2);
        x.way(2, 2, 0, 0);
        due("16: by a longer ring", x.rounds(2, 1), 1);
        due("16: no LOOP of one", x.loops(2, 1), 0);
        // 1 may stand twice, and thrice, but not without end
        x.set(2, 4);
        x.way(3, 0, 0, 0);
        x.way(3, 0, 1, 1);
        x.way(3, 1, 1, 2);
        x.way(3, 2, 1, 3);
        x.way(3, 3, 0, 3);
        due("16: not without end", x.rounds(3, 1), 1);
        due("16: not without end", x.rounds(3, 3), 1);
        byForbidding(x, 2, new int[] {1, 1});
        int[] lucas = {1, 3, 4, 7, 11, 18, 29};
        for (int n = 1; n <= 7; n++) {
            due("16: golden " + n, x.rounds(4, n), lucas[n - 1]);
        }
        for (int odd : new int[] {0, -1, 8, TOP, LOW}) {
            due("16: BAD n", x.rounds(0, odd), BAD);
        }
        due("16: BAD SET", x.rounds(5, 1), BAD);
        due("16: BAD SET", x.rounds(LOW, 1), BAD);
    }

    private static void growth() {
        RowRules x = new RowRules();
        due("17: no SET", x.growth(0, 0, 0), BAD);
        x.set(4, 16);
        due("17: nothing LIVE", x.growth(0, 0, 0), NO);
        due("17: BAD before NO", x.growth(0, 10, 0), BAD);
        due("17: BAD before NO", x.growth(0, 0, 4), BAD);
        byForbidding(x, 2, new int[] {1, 1});
        long[] fib = {1, 1, 2, 3, 5, 8, 13, 21, 34, 55, 89, 144, 233};
        for (int t = 0; t <= 9; t++) {
            boolean even = t % 2 == 0;
            long[] here = {fib[t + 2], fib[t + 1]};
            long[] there = {fib[t + 1], fib[t]};
            due("17: golden least above", x.growth(1, t, 0), even ? there[0] : here[0]);
            due("17: golden least below", x.growth(1, t, 1), even ? there[1] : here[1]);
            due("17: golden greatest above", x.growth(1, t, 2), even ? here[0] : there[0]);
            due("17: golden greatest below", x.growth(1, t, 3), even ? here[1] : there[1]);
        }
        for (int f = 0; f < 16; f++) {
            for (int l = 0; l < 4; l++) {
                for (int t = 0; t < 16; t++) {
                    x.way(0, f, l, t);
                }
            }
        }
        due("17: lowest terms", x.growth(0, 9, 0), 64);
        due("17: lowest terms", x.growth(0, 9, 1), 1);
        x.unway(0, 0, 0, 0);
        // numbers near 2 to the 60th, and fractions that are apart by a little only
        long v0 = 1, v = 1;
        for (int i = 0; i < 9; i++) {
            long next0 = 3 * v0 + 60 * v;
            v = 4 * v0 + 60 * v;
            v0 = next0;
        }
        java.math.BigInteger a0 = java.math.BigInteger.valueOf(3 * v0 + 60 * v), a = java.math.BigInteger.valueOf(4 * v0 + 60 * v);
        java.math.BigInteger b0 = java.math.BigInteger.valueOf(v0), b = java.math.BigInteger.valueOf(v);
        boolean zeroIsLess = a0.multiply(b).compareTo(a.multiply(b0)) < 0;
        java.math.BigInteger g0 = a0.gcd(b0), g = a.gcd(b);
        due("17: near ones, least", x.growth(0, 9, 0), (zeroIsLess ? a0.divide(g0) : a.divide(g)).longValueExact());
        due("17: near ones, least below", x.growth(0, 9, 1), (zeroIsLess ? b0.divide(g0) : b.divide(g)).longValueExact());
        due("17: near ones, greatest", x.growth(0, 9, 2), (zeroIsLess ? a.divide(g) : a0.divide(g0)).longValueExact());
        due("17: near ones, greatest below", x.growth(0, 9, 3), (zeroIsLess ? b.divide(g) : b0.divide(g0)).longValueExact());
        for (int odd : new int[] {-1, 10, TOP, LOW}) {
            due("17: BAD t", x.growth(1, odd, 0), BAD);
            due("17: BAD what", x.growth(1, 0, odd == 10 ? 4 : odd), BAD);
            due("17: BAD SET", x.growth(odd, 0, 0), BAD);
        }
    }

    // ---- promise 18

    private static void same() {
        RowRules x = new RowRules();
        due("18: no SET", x.same(0, 0), BAD);
        x.set(2, 3);
        x.set(2, 1);
        x.set(3, 1);
        spell(x, 1, 1, 0);
        due("18: both empty", x.same(0, 1), 1);
        due("18: itself", x.same(0, 0), 1);
        due("18: unlike many LETTERS", x.same(0, 2), NO);
        due("18: BAD before NO", x.same(2, 3), BAD);
        due("18: BAD", x.same(-1, 0), BAD);
        due("18: BAD", x.same(TOP, LOW), BAD);
        due("18: THE WORD stays", x.count(1), 3);
        x.way(1, 0, 0, 0);
        due("18: the empty WORD parts", x.same(0, 1), 0);
        due("18: THE WORD is empty", x.count(1), 0);
        spell(x, 1, 1, 0);
        due("18: the other way round", x.same(1, 0), 0);
        due("18: THE WORD is empty", x.count(1), 0);
        // 0 without end, by three STATES
        x.way(0, 0, 0, 1);
        x.way(0, 1, 0, 2);
        x.way(0, 2, 0, 0);
        spell(x, 1, 1, 0);
        due("18: the same", x.same(0, 1), 1);
        due("18: THE WORD stays", x.count(1), 3);
        x.way(0, 1, 1, 2);
        due("18: by 1", x.same(1, 0), 0);
        due("18: one LETTER", x.count(1), 1);
        due("18: it is 1", x.letterAt(0), 1);
        x.way(1, 0, 1, 0);
        due("18: by 11", x.same(1, 0), 0);
        due("18: two LETTERS", x.count(1), 2);
        due("18: it is 11", x.letterAt(0) * 2 + x.letterAt(1), 3);
        due("18: all may, these do not", x.may(1) * 2 + x.may(0), 2);
        // the first of like long ones: 001 and 110 both part
        int a = byForbidding(x, 2, new int[] {0, 0, 1}, new int[] {1, 1, 0});
        x.unforbid();
        int b = x.byWords(2);
        due("18: by the first LETTER that differs", x.same(a, b), 0);
        due("18: three LETTERS", x.count(1), 3);
        due("18: 001", x.letterAt(0) * 4 + x.letterAt(1) * 2 + x.letterAt(2), 1);
    }

    /** In rings of 7 and 9 only 62 noughts between two ones lead to the last place of both. */
    private static void sameWordIsLong() {
        RowRules x = new RowRules();
        int any = all(x, 2);
        int rings = x.set(2, 16);
        for (int s = 0; s < 16; s++) {
            boolean last = s == 6 || s == 15;
            x.way(rings, s, 0, s == 6 ? 0 : s == 15 ? 7 : s + 1);
            if (!last) {
                x.way(rings, s, 1, 0);
                x.way(rings, s, 1, 7);
            }
        }
        due("18: part late", x.same(rings, any), 0);
        due("18: thirty LETTERS of 64", x.count(1), 30);
        due("18: the first", x.letterAt(0), 1);
        for (int i = 1; i < 30; i++) {
            due("18: then 0", x.letterAt(i), 0);
        }
        due("18: these MAY STAND in both", x.may(any) + x.may(rings), 2);
        due("18: FULL", x.letter(0), FULL);
        // with 5 and 7 the WORD has 1 + 34 + 1 LETTERS; with 3 and 4 all of its 13 find room
        int few = x.set(2, 7);
        for (int s = 0; s < 7; s++) {
            x.way(few, s, 0, s == 2 ? 0 : s == 6 ? 3 : s + 1);
            if (s != 2 && s != 6) {
                x.way(few, s, 1, 0);
                x.way(few, s, 1, 3);
            }
        }
        due("18: part sooner", x.same(any, few), 0);
        due("18: thirteen LETTERS", x.count(1), 13);
        due("18: the first and the last", x.letterAt(0) * 2 + x.letterAt(12), 3);
        due("18: 0 between", x.letterAt(1) + x.letterAt(11), 0);
        due("18: MAY STAND in one alone", x.may(any) * 2 + x.may(few), 2);
    }

    private static final int[][] MEETS_20000 = {
        {512, 16384, 64, 4, 8, 1024, 1, 32768, 16, 4096, 8192, 2, 2048, 256, 32, 8192},
        {18, 128, 4096, 8, 1042, 1280, 16386, 6, 64, 1, 256, 2, 2128, 8192, 512, 16384}};
    private static final int[][] MEETS_20001 = {
        {48, 16384, 16, 9, 4100, 18, 10, 16, 128, 68, 2048, 36, 8, 512, 256, 4096},
        {128, 16, 8192, 32, 512, 2048, 1024, 2, 4, 16384, 256, 4096, 32768, 32, 64, 1}};

    private static void sameIsSpent() {
        RowRules x = new RowRules();
        int just = graph(x, 16, MEETS_20000);
        int over = graph(x, 16, MEETS_20001);
        int any = all(x, 2);
        int ring = losingRing(x, 15);
        int small = losingRing(x, 14);
        due("18: all LIVE", x.about(just, 3) + x.about(over, 3), 32);
        spell(x, 0, 1);
        due("18: 20000 are met", x.same(just, just), 1);
        due("18: 20000 are met", x.same(just, any), 1);
        due("18: 20001 are met", x.same(over, over), SPENT);
        due("18: 20001 are met", x.same(any, over), SPENT);
        due("18: too many with itself", x.same(ring, ring), SPENT);
        due("18: THE WORD stays", x.count(1), 2);
        due("18: it is met late, but is met", x.same(small, any), 0);
        due("18: fourteen", x.count(1), 14);
        for (int i = 0; i < 14; i++) {
            due("18: of ones", x.letterAt(i), 1);
        }
        due("18: again", x.same(just, just), 1);
        due("18: again", x.same(over, over), SPENT);
    }

    // ---- promises 19, 20

    private static void partPace() {
        RowRules x = new RowRules();
        due("19: no SET", x.part(0, 0), BAD);
        due("20: no SET", x.pace(0, 0), BAD);
        x.set(2, 16);
        due("19: not LIVE", x.part(0, 0), NONE);
        due("20: not LIVE", x.pace(0, 0), NONE);
        // rings 1 4 7 10 (paces 4 and, by 10 to 7, 2), 3 alone between, 2 5 8 of pace 3, 15 alone by itself, 0 dead
        int[][] ways = {{1, 4}, {4, 7}, {7, 10}, {10, 1}, {10, 3}, {3, 2}, {2, 5}, {5, 8}, {8, 2}, {15, 15}, {0, 1}, {8, 9}};
        for (int[] w : ways) {
            due("way", x.way(0, w[0], 0, w[1]), 1);
        }
        int[] part = {-1, 1, 2, 3, 1, 2, -1, 1, 2, -1, 1, -1, -1, -1, -1, 15};
        int[] pace = {-1, 4, 3, 0, 4, 3, -1, 4, 3, -1, 4, -1, -1, -1, -1, 1};
        for (int s = 0; s < 16; s++) {
            due("19: part " + s, x.part(0, s), part[s]);
            due("20: pace " + s, x.pace(0, s), pace[s]);
        }
        due("11: PARTS", x.about(0, 5), 4);
        x.way(0, 10, 1, 7);
        due("20: 4 and 2", x.pace(0, 4), 2);
        x.way(0, 10, 1, 4);
        due("20: 4, 2 and 3", x.pace(0, 4), 1);
        x.way(0, 2, 1, 1);
        for (int s : new int[] {1, 2, 3, 4, 5, 7, 8, 10}) {
            due("19: one PART", x.part(0, s), 1);
        }
        for (int odd : new int[] {-1, 16, TOP, LOW}) {
            due("19: BAD STATE", x.part(0, odd), BAD);
            due("20: BAD STATE", x.pace(0, odd), BAD);
            due("19: BAD SET", x.part(odd, 0), BAD);
            due("20: BAD SET", x.pace(odd, 0), BAD);
        }
        int ring = x.set(2, 16);
        for (int s = 0; s < 16; s++) {
            x.way(ring, s, 0, (s + 5) % 16);
        }
        due("19: the whole ring", x.part(ring, 11), 0);
        due("20: the whole ring", x.pace(ring, 11), 16);
        x.way(ring, 3, 1, 3 + 10);
        due("20: a short cut of 15", x.pace(ring, 11), 1);
        // three layers of five: each STATE leads to two of the next layer
        int layers = x.set(2, 15);
        for (int s = 0; s < 15; s++) {
            int next = (s / 5 + 1) % 3 * 5;
            x.way(layers, s, 0, next + s * 2 % 5);
            x.way(layers, s, 0, next + (s + 3) % 5);
        }
        for (int s = 0; s < 15; s++) {
            due("19: all layers", x.part(layers, s), 0);
            due("20: of three layers", x.pace(layers, s), 3);
        }
        x.way(layers, 14, 1, 7);
        due("20: a way back by one layer", x.pace(layers, 0), 1);
    }

    // ---- promises 21, 22

    private static void windowTells() {
        RowRules x = new RowRules();
        for (int w = 1; w <= 3; w++) {
            int rows = 1 << 2 * w;
            due("21: window", x.window(w), 1);
            due("21: w", x.count(3), w);
            for (int row = 0; row < rows; row++) {
                due("22: 0 at first", x.tells(row, (row * 5 + w) % 4), 0);
            }
            for (int row = 0; row < rows; row++) {
                due("22: what it was", x.tells(row, 3), (row * 5 + w) % 4);
            }
            for (int odd : new int[] {-1, rows, TOP, LOW}) {
                due("22: BAD row", x.tells(odd, 0), BAD);
            }
            for (int odd : new int[] {-1, 4, TOP, LOW}) {
                due("22: BAD LETTER", x.tells(0, odd), BAD);
            }
            due("22: BAD changes nothing", x.tells(0, 3), 3);
        }
        for (int odd : new int[] {0, 4, -1, TOP, LOW}) {
            due("21: BAD", x.window(odd), BAD);
        }
        due("21: w stays", x.count(3), 3);
        due("21: what it tells stays", x.tells(63, 3), 3);
        due("21: anew", x.window(3), 1);
        for (int row = 0; row < 64; row++) {
            due("21: all 0", x.tells(row, 0), 0);
        }
    }

    // ---- promise 23

    private static void maps() {
        RowRules x = new RowRules();
        due("23: no SET", x.maps(0, 0), BAD);
        x.set(2, 1);
        int any = all(x, 2);
        due("23: nothing into nothing", x.maps(0, 0), 1);
        due("23: nothing into all", x.maps(0, any), 1);
        due("23: the empty WORD does not stand", x.maps(any, 0), 0);
        int golden = byForbidding(x, 2, new int[] {1, 1});
        due("23: all to 0", x.maps(any, golden), 1);
        x.tells(1, 1);
        due("23: as it is", x.maps(any, any), 1);
        due("23: 11 comes", x.maps(any, golden), 0);
        due("23: none comes", x.maps(golden, golden), 1);
        x.tells(0, 1);
        x.tells(1, 0);
        due("23: turned over", x.maps(golden, golden), 0);
        x.window(2);
        // 1 just where 01 stands
        x.tells(1, 1);
        due("23: 01 never meets itself", x.maps(any, golden), 1);
        x.tells(4, 1);
        due("23: 010 makes 11", x.maps(any, golden), 0);
        x.tells(4, 2);
        due("23: a LETTER that it has not", x.maps(any, any), 0);
        x.tells(4, 0);
        x.tells(15, 3);
        x.tells(7, 3);
        due("23: rows that it has not", x.maps(any, golden), 1);
        x.window(3);
        // 1 just where 1 stands, 0 ahead and behind (row 0 1 0 is 4)
        x.tells(4, 1);
        due("23: three LETTERS", x.maps(any, golden), 1);
        int thin = byForbidding(x, 2, new int[] {1, 1}, new int[] {1, 0, 1});
        due("23: 01010 makes 101", x.maps(any, thin), 0);
        due("23: but not from one without", x.maps(thin, thin), 1);
        x.tells(1, 1);
        due("23: 001 and 010 make 11", x.maps(thin, thin), 0);
        // first LETTER highest: 0 0 1 is 1, 1 0 0 is 16
        x.window(3);
        x.tells(16, 1);
        due("23: 100 alone", x.maps(thin, thin), 1);
        due("23: of four LETTERS", x.set(4, 1), 4);
        x.way(4, 0, 3, 0);
        due("23: the last row tells 0", x.maps(4, any), 1);
        x.tells(63, 2);
        due("23: the last row tells 2", x.maps(4, any), 0);
        x.tells(63, 3);
        due("23: into itself", x.maps(4, 4), 1);
        for (int odd : new int[] {-1, 5, TOP, LOW}) {
            due("23: BAD", x.maps(odd, 0), BAD);
            due("23: BAD", x.maps(0, odd), BAD);
        }
        windowOfThree();
    }

    private static void windowOfThree() {
        RowRules x = new RowRules();
        int ones = x.set(2, 1);
        x.way(ones, 0, 1, 0);
        int noughts = x.set(2, 1);
        x.way(noughts, 0, 0, 0);
        x.window(3);
        x.tells(0, 1);
        due("23: noughts to ones", x.maps(noughts, ones), 1);
        due("23: noughts to noughts", x.maps(noughts, noughts), 0);
        due("23: ones to noughts", x.maps(ones, noughts), 1);
        x.tells(21, 1);
        due("23: ones to ones", x.maps(ones, ones), 1);
        due("23: ones to noughts no more", x.maps(ones, noughts), 0);
        x.way(noughts, 0, 1, 0);
        due("23: rows between tell 0", x.maps(noughts, ones), 0);
        for (int row : new int[] {1, 4, 5, 16, 17, 20}) {
            x.tells(row, 1);
        }
        due("23: all rows tell 1", x.maps(noughts, ones), 1);
    }

    private static void mapsIsSpent() {
        RowRules x = new RowRules();
        int just = graph(x, 16, MEETS_20000);
        int over = graph(x, 16, MEETS_20001);
        int any = all(x, 2);
        int two = x.set(2, 2);
        for (int s = 0; s < 2; s++) {
            x.way(two, s, s, 0);
            x.way(two, s, s, 1);
        }
        x.tells(1, 1);
        due("23: 20000 are met", x.maps(any, just), 1);
        due("23: 20001 are met", x.maps(any, over), SPENT);
        due("23: two beginnings", x.maps(two, just), SPENT);
        int ring = losingRing(x, 15);
        due("23: SPENT before it is seen", x.maps(any, ring), SPENT);
        int small = losingRing(x, 14);
        due("23: seen in time", x.maps(any, small), 0);
        x.window(2);
        x.tells(1, 1);
        x.tells(5, 1);
        due("23: the last LETTER is met too", x.maps(any, just), SPENT);
        due("23: all rows to 0", x.window(2) + x.maps(any, over), 2);
    }

    // ---- promises 24, 25

    private static void weightsWeight() {
        RowRules x = new RowRules();
        due("24: no SET", x.weights(0, 1, 1, 1), BAD);
        due("25: no SET", x.weight(0, 1, 1, 1, 0), BAD);
        byForbidding(x, 2, new int[] {1, 1});
        due("24: two in three", x.weights(0, 2, 3, 10), 16);
        due("25: of 0", x.weight(0, 2, 3, 10, 0), 10);
        due("25: of 1", x.weight(0, 2, 3, 10, 1), 6);
        due("24: at most 2", x.weights(0, 2, 3, 2), 3);
        due("24: at most 1", x.weights(0, 2, 3, 1), 0);
        due("25: at most 1", x.weight(0, 2, 3, 1, 0), 0);
        due("24: three in four is too much", x.weights(0, 3, 4, 100), 0);
        due("24: one in one is too much", x.weights(0, 1, 1, 100), 0);
        x.set(4, 16);
        due("24: nothing LIVE", x.weights(1, 1, 1, 1), 0);
        due("25: not LIVE", x.weight(1, 1, 1, 1, 15), 0);
        for (int f = 0; f < 16; f++) {
            for (int l = 0; l < 4; l++) {
                for (int t = 0; t < 16; t++) {
                    x.way(1, f, l, t);
                }
            }
        }
        due("24: all at most", x.weights(1, 8, 4, 100), 1600);
        due("24: 64 by 2 to the 6th", x.weights(1, 6, 1, 7), 112);
        due("24: 64 by 2 to the 7th", x.weights(1, 7, 1, 100), 0);
        int[][] odd = {{0, 1, 1}, {9, 1, 1}, {-1, 1, 1}, {TOP, 1, 1}, {1, 0, 1}, {1, 5, 1}, {1, LOW, 1}, {1, 1, 0}, {1, 1, 101}, {1, 1, TOP}};
        for (int[] o : odd) {
            due("24: BAD", x.weights(0, o[0], o[1], o[2]), BAD);
            due("25: BAD", x.weight(0, o[0], o[1], o[2], 0), BAD);
        }
        for (int s : new int[] {-1, 2, TOP, LOW}) {
            due("25: BAD STATE", x.weight(0, 2, 3, 10, s), BAD);
            due("24: BAD SET", x.weights(s, 2, 3, 10), BAD);
            due("25: BAD SET", x.weight(s, 2, 3, 10, 0), BAD);
        }
        // a STATE that is not LIVE adds nothing, though WAYS lead from it
        x.set(2, 3);
        x.way(2, 0, 0, 0);
        x.way(2, 0, 1, 0);
        x.way(2, 0, 1, 1);
        x.way(2, 2, 0, 0);
        due("24: LIVE ones alone", x.weights(2, 1, 1, 9), 9);
        due("25: not LIVE", x.weight(2, 1, 1, 9, 1) + x.weight(2, 1, 1, 9, 2), 0);
        // a little too much for it: they fall by and by, 153 times, till none are left
        int slow = x.set(2, 6);
        int[][] ways = {{3, 0, 4}, {4, 1, 0}, {0, 1, 3}, {5, 1, 2}, {1, 0, 3}, {3, 1, 5}, {4, 1, 5}, {2, 1, 4}, {0, 1, 1}, {4, 1, 1},
            {5, 1, 3}, {1, 1, 1}, {2, 1, 5}, {2, 0, 5}, {2, 0, 1}, {4, 0, 4}, {3, 1, 1}, {3, 0, 0}};
        for (int[] w : ways) {
            due("way", x.way(slow, w[0], w[1], w[2]), 1);
        }
        due("24: all LIVE", x.about(slow, 3), 6);
        due("24: by and by", x.weights(slow, 3, 2, 100), 0);
        due("25: by and by", x.weight(slow, 3, 2, 100, 1), 0);
    }

    // ---- promises 26, 27

    private static void count() {
        RowRules x = new RowRules();
        x.set(2, 2);
        x.byWords(3);
        x.letter(1);
        x.letter(2);
        x.letter(0);
        x.forbid();
        x.forbid();
        x.forbid();
        x.forbid();
        x.window(3);
        int[] want = {2, 3, 4, 3};
        for (int what = 0; what < 4; what++) {
            due("26: count " + what, x.count(what), want[what]);
        }
        for (int odd : new int[] {-1, 4, TOP, LOW}) {
            due("26: BAD", x.count(odd), BAD);
        }
    }

    private static void digest() {
        RowRules x = new RowRules();
        x.set(3, 2);
        x.way(0, 0, 2, 1);
        x.way(0, 0, 2, 0);
        x.way(0, 0, 1, 1);
        x.set(2, 1);
        spell(x, 2, 1);
        x.forbid();
        spell(x, 3);
        x.forbid();
        spell(x, 0, 1, 3);
        x.window(2);
        x.tells(14, 3);
        long h = 193;
        long[] values = {2, 3, 2, 2, 3, 2, 3, 1, 1, 0, 2, 3, 0, 0, 0, 2, 1, 0, 0, 0, 0, 0, 0, 1, 3, 2, 2, 1, 1, 3,
            0, 0, 0, 0, 0, 0, 0, 0, 0, 0, 0, 0, 0, 0, 3, 0};
        for (long v : values) {
            h = 31 * h + v;
        }
        due("27: digest", x.digest(), h);
        due("27: again", x.digest(), h);
        x.window(2);
        due("27: it is another one", x.digest() == h ? 1 : 0, 0);
    }

    /** Every call with numbers that are not as told: nothing changes, whatever was asked. */
    private static void refusedChangesNothing() {
        RowRules x = new RowRules();
        byForbidding(x, 2, new int[] {1, 1});
        all(x, 3);
        spell(x, 0, 1, 0);
        x.window(2);
        x.tells(5, 1);
        long was = x.digest();
        for (int odd : new int[] {LOW, -1000000007, -7, -1, 99, 101, 65536, 1 << 28, TOP}) {
            int[] got = {x.set(odd, odd), x.way(odd, odd, odd, odd), x.unway(odd, odd, odd, odd), x.letter(odd),
                x.byWords(odd), x.about(odd, odd), x.live(odd, odd), x.may(odd), (int) x.howMany(odd, odd), (int) x.loops(odd, odd),
                x.rounds(odd, odd), (int) x.growth(odd, odd, odd), x.same(odd, odd), x.part(odd, odd), x.pace(odd, odd), x.window(odd),
                x.tells(odd, odd), x.maps(odd, odd), x.weights(odd, odd, odd, odd), x.weight(odd, odd, odd, odd, odd), x.count(odd)};
            for (int i = 0; i < got.length; i++) {
                due("BAD of call " + i + " with " + odd, got[i], BAD);
            }
            due("NONE", x.letterAt(odd), NONE);
            due("digest behind", x.digest(), was);
        }
        for (int set = 0; set < 2; set++) {
            x.about(set, 5);
            x.live(set, 0);
            x.may(set);
            x.howMany(set, 9);
            x.loops(set, 9);
            x.rounds(set, 5);
            x.growth(set, 4, 2);
            x.same(set, set);
            x.same(set, 1 - set);
            x.part(set, 0);
            x.pace(set, 0);
            x.maps(set, 1 - set);
            x.weights(set, 1, 2, 3);
            x.weight(set, 1, 2, 3, 0);
            x.way(set, 0, 0, 0);
        }
        due("questions change nothing", x.digest(), was);
    }
}
