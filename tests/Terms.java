/** The document's terms, and how calls are refused: a test for each sentence that names an edge. */
public final class Terms {
    private static final int BAD = -2, NO = -3, FULL = -4, SPENT = -5;

    public static void main(String[] args) {
        face();
        whatItIs();
        setsAndGraphs();
        live();
        mayStand();
        byWords();
        howMany();
        loops();
        rounds();
        growth();
        theSame();
        whatParts();
        sameIsSpent();
        parts();
        paces();
        windows();
        mapping();
        mappingIsSpent();
        weights();
        refused();
        refusedChangesNothing();
        Sentences.end();
    }

    private static void holds(String words, String theCase, Runnable test) {
        Sentences.holds(words, theCase, test);
    }

    private static void due(String call, long got, long want) {
        Sentences.due(call, got, want);
    }

    // ---- the public face, what it is

    private static void face() {
        Sentences.at("The public face");
        holds("public static final int NONE = -1, BAD = -2, NO = -3, FULL = -4, SPENT = -5;", "the constants", () -> {
            due("NONE", RowRules.NONE, -1);
            due("BAD", RowRules.BAD, -2);
            due("NO", RowRules.NO, -3);
            due("FULL", RowRules.FULL, -4);
            due("SPENT", RowRules.SPENT, -5);
        });
    }

    private static void whatItIs() {
        Sentences.at("What it is");
        holds("An object is used for at most 512 calls after it has been made", "the 512th call answers as told", () -> {
            Counted x = new Counted();
            int golden = x.golden();
            for (int i = 0; x.callsLeft() > 3; i++) {
                due("rounds", x.rounds(golden, 7), 29);
            }
            due("letter, call 510", x.letter(2), 1);
            due("letterAt, call 511", x.letterAt(0), 2);
            due("howMany, call 512", x.howMany(golden, 24), 121393);
        });
    }

    // ---- terms 1

    private static void setsAndGraphs() {
        Sentences.at("Terms 1");
        holds("SETS 0 .. 5", "six, told apart by their numbers", () -> {
            Counted x = new Counted();
            for (int i = 0; i < 6; i++) {
                due("set", x.set(2 + i % 3, 1 + 3 * i), i);
                due("not yet there", x.about(i + 1, 0), BAD);
            }
            for (int i = 0; i < 6; i++) {
                due("LETTERS of " + i, x.about(i, 0), 2 + i % 3);
                due("STATES of " + i, x.about(i, 1), 1 + 3 * i);
            }
            due("a seventh", x.set(2, 1), FULL);
            due("6 is none", x.about(6, 0), BAD);
            due("-1 is none", x.about(-1, 0), BAD);
        });
        holds("have k LETTERS 0 .. k - 1 (2 .. 4) and a GRAPH", "the first and the last LETTER", () -> {
            Counted x = new Counted();
            for (int k = 2; k <= 4; k++) {
                int set = x.set(k, 1);
                due("0", x.way(set, 0, 0, 0), 1);
                due("k - 1", x.way(set, 0, k - 1, 0), 1);
                due("k", x.way(set, 0, k, 0), BAD);
                due("-1", x.way(set, 0, -1, 0), BAD);
            }
            due("one LETTER", x.set(1, 1), BAD);
            due("five LETTERS", x.set(5, 1), BAD);
        });
        holds("STATES 0 .. n - 1 (1 .. 16)", "the first and the last STATE", () -> {
            Counted x = new Counted();
            for (int n = 1; n <= 16; n += 5) {
                int set = x.set(2, n);
                due("from 0 to n - 1", x.way(set, 0, 0, n - 1), 1);
                due("from n - 1 to 0", x.way(set, n - 1, 1, 0), 1);
                due("n - 1 is LIVE", x.live(set, n - 1), 1);
                due("from n", x.way(set, n, 0, 0), BAD);
                due("to n", x.way(set, 0, 0, n), BAD);
                due("n", x.live(set, n), BAD);
                due("-1", x.live(set, -1), BAD);
            }
            due("no STATES", x.set(2, 0), BAD);
            due("seventeen", x.set(2, 17), BAD);
        });
        holds("WAYS from a STATE to one, each with a LETTER (for a STATE, LETTER and STATE one at most)", "alike and unlike ones", () -> {
            Counted x = new Counted();
            x.set(3, 3);
            due("a WAY", x.way(0, 1, 1, 2), 1);
            due("another end", x.way(0, 1, 1, 0), 1);
            due("to itself", x.way(0, 1, 1, 1), 1);
            due("another LETTER", x.way(0, 1, 2, 2), 1);
            due("another beginning", x.way(0, 0, 1, 2), 1);
            due("the other way round", x.way(0, 2, 1, 1), 1);
            due("alike", x.way(0, 1, 1, 2), NO);
            due("WAYS", x.about(0, 2), 6);
        });
    }

    private static void liveAre(Counted x, int set, String want) {
        StringBuilder got = new StringBuilder();
        int states = x.about(set, 1);
        for (int s = 0; s < states; s++) {
            got.append(x.live(set, s));
        }
        Sentences.due("LIVE of SET " + set, got.toString(), want);
        due("how many are LIVE", x.about(set, 3), want.replace("0", "").length());
    }

    private static void live() {
        String words = "LIVE are STATES that are left when all to which no WAY from one that is left leads, "
            + "or from which none leads to one that is left, go, again and again";
        holds(words, "no WAYS at all; one STATE; two", () -> {
            Counted x = new Counted();
            x.set(2, 16);
            liveAre(x, 0, "0000000000000000");
            x.set(2, 1);
            liveAre(x, 1, "0");
            x.way(1, 0, 1, 0);
            liveAre(x, 1, "1");
            liveAre(x, x.graph(2, 2, new int[] {0, 0, 1}), "00");
            liveAre(x, x.graph(2, 2, new int[] {0, 0, 1}, new int[] {1, 0, 0}), "11");
        });
        holds(words, "a row of sixteen goes from both ends, by and by", () -> {
            Counted x = new Counted();
            x.set(2, 16);
            for (int s = 0; s < 15; s++) {
                x.way(0, s, 0, s + 1);
            }
            liveAre(x, 0, "0000000000000000");
            x.way(0, 15, 1, 15);
            liveAre(x, 0, "0000000000000001");
            x.unway(0, 15, 1, 15);
            x.way(0, 0, 1, 0);
            liveAre(x, 0, "1000000000000000");
            x.way(0, 15, 1, 15);
            liveAre(x, 0, "1111111111111111");
            x.unway(0, 7, 0, 8);
            liveAre(x, 0, "1000000000000001");
        });
        holds(words, "led to only, leading only, and between two that stay", () -> {
            Counted x = new Counted();
            int set = x.graph(2, 6, new int[] {0, 0, 1}, new int[] {1, 0, 2}, new int[] {2, 0, 1}, new int[] {2, 0, 3},
                new int[] {5, 1, 1}, new int[] {3, 1, 4});
            liveAre(x, set, "011000");
            x.way(set, 4, 0, 4);
            liveAre(x, set, "011110");
        });
        holds("WAYS between LIVE ones are LIVE", "those to and from others are not", () -> {
            Counted x = new Counted();
            int set = x.graph(2, 4, new int[] {0, 0, 0}, new int[] {0, 1, 1}, new int[] {2, 0, 0}, new int[] {2, 1, 1});
            due("WAYS", x.about(set, 2), 4);
            due("LIVE WAYS", x.about(set, 4), 1);
            x.way(set, 1, 1, 0);
            due("LIVE WAYS", x.about(set, 4), 3);
            x.unway(set, 0, 0, 0);
            x.unway(set, 0, 1, 1);
            due("WAYS", x.about(set, 2), 3);
            due("LIVE WAYS", x.about(set, 4), 0);
        });
    }

    private static void mayStand() {
        String words = "A WORD (LETTERS, perhaps none) MAY STAND, if some row of LIVE WAYS, one behind the other, has its LETTERS";
        holds(words, "from any STATE, one behind the other", () -> {
            Counted x = new Counted();
            int set = x.graph(2, 3, new int[] {0, 0, 1}, new int[] {1, 0, 2}, new int[] {2, 1, 0});
            String[] may = {"0", "1", "00", "01", "10", "001", "010", "100", "0100100", "100".repeat(10)};
            String[] mayNot = {"11", "000", "101", "1000", "0101", "100".repeat(9) + "101"};
            for (String word : may) {
                due(word, mayWord(x, set, word), 1);
            }
            for (String word : mayNot) {
                due(word, mayWord(x, set, word), 0);
            }
        });
        holds(words, "by WAYS that are not LIVE it may not", () -> {
            Counted x = new Counted();
            int set = x.graph(2, 3, new int[] {0, 0, 0}, new int[] {0, 1, 1}, new int[] {2, 1, 0});
            x.spell(1);
            due("1", x.may(set), 0);
            x.spell(0, 0);
            due("00", x.may(set), 1);
        });
        holds("(the empty one: if a STATE is LIVE)", "none, then one", () -> {
            Counted x = new Counted();
            int set = x.graph(2, 2, new int[] {0, 0, 1});
            due("none is LIVE", x.may(set), 0);
            due("none is LIVE", x.howMany(set, 0), 0);
            x.way(set, 1, 1, 1);
            due("one is LIVE", x.may(set), 1);
            due("one is LIVE", x.howMany(set, 0), 1);
        });
    }

    private static int mayWord(Counted x, int set, String word) {
        x.spell(word.chars().map(sign -> sign - '0').toArray());
        return x.may(set);
    }

    private static void byWords() {
        holds("BY WORDS: of up to 8 WORDS that are FORBIDDEN", "none, and all eight of eight", () -> {
            Counted x = new Counted();
            due("none: all WAYS", x.about(x.byWords(3), 2), 9);
            int[][] rows = new int[8][];
            for (int i = 0; i < 8; i++) {
                rows[i] = new int[] {i >> 2, i >> 1 & 1, i & 1};
            }
            int set = x.byForbidding(2, rows);
            due("eight", x.count(2), 8);
            due("all rows of three are FORBIDDEN", x.about(set, 2), 0);
            due("four STATES", x.about(set, 1), 4);
            due("all but 000", x.about(x.byForbidding(2, java.util.Arrays.copyOfRange(rows, 1, 8)), 2), 1);
            due("all but 111", x.about(x.byForbidding(2, java.util.Arrays.copyOf(rows, 7)), 2), 1);
        });
        holds("of 1 .. 5 LETTERS each, with m the longest, 2 at least", "m of 2 (by 1 LETTER, and by none), 3, 4, 5", () -> {
            Counted x = new Counted();
            due("none", x.about(x.byWords(2), 1), 2);
            for (int length = 1; length <= 5; length++) {
                x.forbidJust(new int[length], new int[] {1});
                due("STATES by a WORD of " + length, x.about(x.byWords(2), 1), new int[] {2, 2, 4, 8, 16}[length - 1]);
            }
        });
        holds("of 1 .. 5 LETTERS each, with m the longest, 2 at least", "the longest, wherever it stands among them", () -> {
            Counted x = new Counted();
            due("first", x.about(x.byForbidding(2, new int[] {0, 1, 0, 1}, new int[] {1}, new int[] {0, 0}), 1), 8);
            due("amid", x.about(x.byForbidding(2, new int[] {1}, new int[] {0, 1, 0, 1}, new int[] {0, 0}), 1), 8);
            due("last", x.about(x.byForbidding(2, new int[] {1}, new int[] {0, 0}, new int[] {0, 1, 0, 1}), 1), 8);
        });
        byWordsStates();
        byWordsWays();
    }

    private static void byWordsStates() {
        String words = "STATES are all rows of m - 1 LETTERS (k to the (m - 1)-th is 16 at most), numbered as numbers to the base k, "
            + "the first LETTER highest";
        holds(words, "16, 9 and 16 STATES are not too many, 27 and 64 are", () -> {
            Counted x = new Counted();
            x.forbidJust(new int[5]);
            due("2 to the 4th", x.about(x.byWords(2), 1), 16);
            due("3 to the 4th", x.byWords(3), NO);
            x.forbidJust(new int[3]);
            due("3 to the 2nd", x.about(x.byWords(3), 1), 9);
            due("4 to the 2nd", x.about(x.byWords(4), 1), 16);
            x.forbidJust(new int[4]);
            due("2 to the 3rd", x.about(x.byWords(2), 1), 8);
            due("3 to the 3rd", x.byWords(3), NO);
            due("4 to the 3rd", x.byWords(4), NO);
        });
        holds(words, "12 of three LETTERS is 5, 12 of four is 6, 0111 is 7, 1000 is 8", () -> {
            Counted x = new Counted();
            int three = x.byForbidding(3, new int[] {1, 2, 0});
            due("120 is gone: 5 to 6 by 0", x.way(three, 5, 0, 6), 1);
            due("1 2 1: 5 to 7 by 1", x.way(three, 5, 1, 7), NO);
            int four = x.byForbidding(4, new int[] {1, 2, 3});
            due("123 is gone: 6 to 11 by 3", x.way(four, 6, 3, 11), 1);
            due("1 2 2: 6 to 10 by 2", x.way(four, 6, 2, 10), NO);
            int two = x.byForbidding(2, new int[] {0, 1, 1, 1, 0});
            due("01110 is gone: 7 to 14 by 0", x.way(two, 7, 0, 14), 1);
            due("0 1 1 1 1: 7 to 15 by 1", x.way(two, 7, 1, 15), NO);
            due("1 0 0 0 0: 8 to 0 by 0", x.way(two, 8, 0, 0), NO);
            due("1 0 0 0 1: 8 to 1 by 1", x.way(two, 8, 1, 1), NO);
        });
    }

    private static void byWordsWays() {
        String words = "from a row to that without its first LETTER and with one more behind a WAY with this one, "
            + "if no FORBIDDEN WORD stands anywhere in the m LETTERS";
        holds(words, "a short one first, amid and last in the m LETTERS", () -> {
            Counted x = new Counted();
            int set = x.byForbidding(2, new int[] {1, 1}, new int[] {0, 0, 0, 0});
            due("m is 4", x.about(set, 1), 8);
            due("rows of 4 LETTERS without both", x.about(set, 2), 7);
            due("0101", x.unway(set, 2, 1, 5), 1);
            due("1100 has it first", x.unway(set, 6, 0, 4), NO);
            due("0110 has it amid", x.unway(set, 3, 0, 6), NO);
            due("1011 has it last", x.unway(set, 5, 1, 3), NO);
            due("0000 is one", x.unway(set, 0, 0, 0), NO);
            due("0001", x.unway(set, 0, 1, 1), 1);
        });
        holds(words, "one LETTER alone: rows that have it are STATES without WAYS", () -> {
            Counted x = new Counted();
            int set = x.byForbidding(3, new int[] {1});
            due("STATES", x.about(set, 1), 3);
            due("00, 02, 20, 22", x.about(set, 2), 4);
            liveAre(x, set, "101");
        });
        holds(words, "only WAYS to the row behind", () -> {
            Counted x = new Counted();
            int set = x.byForbidding(2, new int[] {0, 0, 0});
            due("WAYS", x.about(set, 2), 7);
            for (int row = 1; row < 8; row++) {
                due("row " + row, x.unway(set, row >> 1, row & 1, row & 3), 1);
            }
            due("no more", x.about(set, 2), 0);
        });
    }

    // ---- terms 2

    private static void howMany() {
        Sentences.at("Terms 2");
        String words = "HOW MANY of n (0 .. 24): WORDS of n LETTERS that MAY STAND";
        holds(words, "none to 24 LETTERS", () -> {
            Counted x = new Counted();
            int golden = x.golden();
            long many = 1;
            long next = 2;
            for (int n = 0; n <= 24; n++) {
                due("n " + n, x.howMany(golden, n), many);
                long sum = many + next;
                many = next;
                next = sum;
            }
            int all = x.all(4);
            due("the most", x.howMany(all, 24), 1L << 48);
            due("one: the empty one", x.howMany(all, 0), 1);
            due("-1", x.howMany(all, -1), BAD);
            due("25", x.howMany(all, 25), BAD);
        });
        holds(words, "WORDS, not rows of WAYS", () -> {
            Counted x = new Counted();
            int set = x.graph(2, 2, new int[] {0, 0, 0}, new int[] {0, 0, 1}, new int[] {1, 0, 0}, new int[] {1, 0, 1});
            due("one", x.howMany(set, 24), 1);
            x.way(set, 1, 1, 1);
            due("a 1 behind and ahead of all", x.howMany(set, 24), 1 << 24);
        });
        holds(words, "WAYS that are not LIVE add none", () -> {
            Counted x = new Counted();
            int set = x.graph(2, 3, new int[] {0, 0, 0}, new int[] {0, 1, 1}, new int[] {2, 1, 0});
            for (int n = 0; n <= 24; n++) {
                due("n " + n, x.howMany(set, n), 1);
            }
        });
        holds(words, "all 65535 sets of STATES are needed", () -> {
            Counted x = new Counted();
            int ring = x.losingRing(16);
            due("none is lost", x.howMany(ring, 15), 1 << 15);
            due("all are, by one", x.howMany(ring, 16), (1 << 16) - 1);
            // for 24 LETTERS: eight places of the ring are met twice, each lost by three of four pairs, eight once
            due("of 24", x.howMany(ring, 24), (1 << 24) - 6561);
        });
    }

    private static void loops() {
        String words = "LOOPS of n (1 .. 10): rows of n LIVE WAYS, one behind the other, that come back to where they began "
            + "(by where they begin)";
        holds(words, "1 to 10 WAYS", () -> {
            Counted x = new Counted();
            int golden = x.golden();
            int[] lucas = {1, 3, 4, 7, 11, 18, 29, 47, 76, 123};
            for (int n = 1; n <= 10; n++) {
                due("n " + n, x.loops(golden, n), lucas[n - 1]);
            }
            due("0", x.loops(golden, 0), BAD);
            due("11", x.loops(golden, 11), BAD);
        });
        holds(words, "one for each STATE where it begins; WAYS with each LETTER", () -> {
            Counted x = new Counted();
            int ring = x.graph(2, 3, new int[] {0, 0, 1}, new int[] {1, 0, 2}, new int[] {2, 0, 0});
            due("once round", x.loops(ring, 3), 3);
            due("not round", x.loops(ring, 4), 0);
            due("thrice round", x.loops(ring, 9), 3);
            x.way(ring, 2, 1, 0);
            due("two WAYS back", x.loops(ring, 3), 6);
            due("two WAYS back, twice", x.loops(ring, 6), 12);
        });
        holds(words, "more than an int holds; none where nothing is LIVE", () -> {
            Counted x = new Counted();
            due("nothing LIVE", x.loops(x.graph(2, 2, new int[] {0, 0, 1}), 10), 0);
            x.set(4, 4);
            for (int i = 0; i < 64; i++) {
                x.way(1, i >> 4, i >> 2 & 3, i & 3);
            }
            due("16 to the 10th", x.loops(1, 10), 1L << 40);
        });
    }

    private static void rounds() {
        String words = "ROUNDS of n (1 .. 7): rows of n LETTERS that, repeated without end both ways, MAY STAND (each part of it)";
        holds(words, "1 to 7 LETTERS", () -> {
            Counted x = new Counted();
            int golden = x.golden();
            int[] lucas = {1, 3, 4, 7, 11, 18, 29};
            for (int n = 1; n <= 7; n++) {
                due("n " + n, x.rounds(golden, n), lucas[n - 1]);
            }
            due("0", x.rounds(golden, 0), BAD);
            due("8", x.rounds(golden, 8), BAD);
            due("all of seven of four", x.rounds(x.all(4), 7), 1 << 14);
        });
        holds(words, "rows, not LOOPS: 0 goes on in a ring of three", () -> {
            Counted x = new Counted();
            int ring = x.graph(2, 3, new int[] {0, 0, 1}, new int[] {1, 0, 2}, new int[] {2, 0, 0});
            due("rounds", x.rounds(ring, 1), 1);
            due("loops", x.loops(ring, 1), 0);
            due("rounds", x.rounds(ring, 3), 1);
            due("loops", x.loops(ring, 3), 3);
        });
        holds(words, "fifteen 1 MAY STAND, and so may seven times 11, but not 1 without end", () -> {
            Counted x = new Counted();
            x.set(2, 16);
            for (int s = 0; s < 15; s++) {
                x.way(0, s, 1, s + 1);
            }
            x.way(0, 0, 0, 0);
            x.way(0, 15, 0, 15);
            for (int i = 0; i < 15; i++) {
                x.letter(1);
            }
            due("fifteen", x.may(0), 1);
            for (int n = 1; n <= 7; n++) {
                due("n " + n, x.rounds(0, n), 1);
            }
            x.way(0, 15, 1, 15);
            due("with 1 without end", x.rounds(0, 1), 2);
        });
        holds(words, "nothing LIVE", () -> {
            Counted x = new Counted();
            due("rounds", x.rounds(x.graph(2, 2, new int[] {0, 0, 1}), 1), 0);
        });
    }

    private static void growthIs(Counted x, int set, int t, String want) {
        StringBuilder got = new StringBuilder();
        for (int what = 0; what < 4; what++) {
            got.append(x.growth(set, t, what)).append(' ');
        }
        Sentences.due("growth by " + t, got.toString().strip(), want);
    }

    private static void growth() {
        holds("GROWTH by t (0 .. 9): of LIVE STATES v is 1 at first", "by 0: what one turn makes of 1", () -> {
            Counted x = new Counted();
            int set = x.graph(3, 3, new int[] {0, 0, 0}, new int[] {0, 1, 0}, new int[] {0, 2, 0}, new int[] {0, 0, 1},
                new int[] {1, 0, 1}, new int[] {1, 1, 1}, new int[] {1, 2, 2});
            growthIs(x, set, 0, "2 1 4 1");
            due("-1", x.growth(set, -1, 0), BAD);
            due("10", x.growth(set, 10, 0), BAD);
        });
        holds("t times all at once it becomes the sum over LIVE WAYS from it of v at their ends", "0 to 9 times", () -> {
            Counted x = new Counted();
            int golden = x.golden();
            long[] v = {1, 1, 2, 3, 5, 8, 13, 21, 34, 55, 89, 144};
            for (int t = 0; t <= 9; t++) {
                String ofOne = v[t + 1] + " " + v[t];
                String ofNought = v[t + 2] + " " + v[t + 1];
                growthIs(x, golden, t, t % 2 == 0 ? ofOne + " " + ofNought : ofNought + " " + ofOne);
            }
        });
        holds("then once more", "from the greatest numbers that so few calls can make", () -> {
            Counted x = new Counted();
            x.set(4, 16);
            int ways = 0;
            for (int from = 0; from < 16; from++) {
                for (int i = 0; i < 28; i++) {
                    x.way(0, from, i / 7, (from + i) % 16);
                }
            }
            due("WAYS", x.about(0, 4), 448);
            growthIs(x, 0, 9, "28 1 28 1");
        });
        holds("the least and the greatest of (what it is then by what it was), over LIVE STATES, in lowest terms", "by common divisors", () -> {
            Counted x = new Counted();
            int set = x.graph(2, 2, new int[] {0, 0, 1}, new int[] {0, 1, 1}, new int[] {1, 0, 0}, new int[] {1, 1, 0});
            growthIs(x, set, 0, "2 1 2 1");
            growthIs(x, set, 9, "2 1 2 1");
        });
        holds("the least and the greatest of (what it is then by what it was), over LIVE STATES, in lowest terms",
            "STATES that are not LIVE do not count", () -> {
                Counted x = new Counted();
                int set = x.graph(2, 4, new int[] {1, 0, 1}, new int[] {1, 1, 1}, new int[] {0, 0, 1}, new int[] {1, 0, 2},
                    new int[] {1, 1, 2});
                growthIs(x, set, 0, "2 1 2 1");
                growthIs(x, set, 5, "2 1 2 1");
            });
        holds("the least and the greatest of (what it is then by what it was), over LIVE STATES, in lowest terms",
            "fractions that are nearer to one another than two doubles", Terms::nearFractions);
        holds("the least and the greatest of (what it is then by what it was), over LIVE STATES, in lowest terms",
            "16 and 12, whose products a long does not hold", () -> {
                for (int first = 3; first <= 4; first++) {
                    Counted x = new Counted();
                    x.set(4, 7);
                    for (int from = 0; from < 7; from++) {
                        for (int to = from < first ? 0 : first; to < (from < first ? first : 7); to++) {
                            for (int letter = 0; letter < 4; letter++) {
                                x.way(0, from, letter, to);
                            }
                        }
                    }
                    due("WAYS", x.about(0, 4), 100);
                    for (int t = 0; t <= 9; t++) {
                        growthIs(x, 0, t, "12 1 16 1");
                    }
                }
            });
        holds("the least and the greatest of (what it is then by what it was), over LIVE STATES, in lowest terms",
            "2 and 5 by 2, 3 and 7 by 2: of like whole parts", () -> {
                Counted x = new Counted();
                // by STATES: 5 by 2, 2, 2, 7 by 3; then 3, 7 by 2, 13 by 4, 8 by 3
                int first = x.graph(2, 4, new int[] {0, 0, 2}, new int[] {0, 1, 3}, new int[] {1, 0, 1}, new int[] {1, 1, 0},
                    new int[] {2, 0, 2}, new int[] {2, 1, 2}, new int[] {3, 0, 2}, new int[] {3, 1, 2}, new int[] {3, 1, 3});
                growthIs(x, first, 1, "2 1 5 2");
                int second = x.graph(3, 4, new int[] {1, 0, 0}, new int[] {1, 1, 2}, new int[] {3, 0, 3}, new int[] {3, 1, 1}, new int[] {3, 2, 0},
                    new int[] {0, 0, 0}, new int[] {0, 1, 0}, new int[] {0, 2, 0},
                    new int[] {2, 0, 0}, new int[] {2, 1, 0}, new int[] {2, 2, 0}, new int[] {2, 2, 2});
                growthIs(x, second, 1, "8 3 7 2");
            });
    }

    /** Eleven STATES with all WAYS but one from STATE 0 to itself: v of STATE 0, and v of each other. */
    private static void nearFractions() {
        Counted x = new Counted();
        x.set(4, 11);
        for (int i = 1; i < 484; i++) {
            x.way(0, i / 44, i % 4, i / 4 % 11);
        }
        java.math.BigInteger three = java.math.BigInteger.valueOf(3);
        java.math.BigInteger nought = java.math.BigInteger.ONE;
        java.math.BigInteger other = nought;
        for (int t = 0; t <= 9; t++) {
            java.math.BigInteger ofOthers = other.multiply(java.math.BigInteger.valueOf(40));
            java.math.BigInteger nextNought = nought.multiply(three).add(ofOthers);
            java.math.BigInteger nextOther = nought.shiftLeft(2).add(ofOthers);
            boolean less = nextNought.multiply(other).compareTo(nextOther.multiply(nought)) < 0;
            String ofNought = lowest(nextNought, nought);
            String ofOther = lowest(nextOther, other);
            // calls are few: by 9 they differ by less than doubles near them do
            if (t >= 6) {
                growthIs(x, 0, t, less ? ofNought + " " + ofOther : ofOther + " " + ofNought);
            }
            nought = nextNought;
            other = nextOther;
        }
    }

    private static String lowest(java.math.BigInteger above, java.math.BigInteger below) {
        java.math.BigInteger divisor = above.gcd(below);
        return above.divide(divisor) + " " + below.divide(divisor);
    }

    // ---- terms 2: the same

    private static void theSame() {
        String words = "TWO SETS with as many LETTERS are THE SAME if just the same WORDS MAY STAND";
        holds(words, "whatever their STATES are", () -> {
            Counted x = new Counted();
            int one = x.only(2, 1);
            int ring = x.graph(2, 3, new int[] {0, 0, 1}, new int[] {1, 0, 2}, new int[] {2, 0, 0});
            due("0 without end", x.same(one, ring), 1);
            due("the other way round", x.same(ring, one), 1);
            due("with itself", x.same(ring, ring), 1);
            int golden = x.golden();
            int byHand = x.graph(2, 4, new int[] {3, 0, 3}, new int[] {3, 1, 1}, new int[] {1, 0, 3}, new int[] {2, 1, 3});
            due("golden by hand, with a STATE that is not LIVE", x.same(golden, byHand), 1);
        });
        holds(words, "nothing LIVE in both", () -> {
            Counted x = new Counted();
            x.set(2, 16);
            x.graph(2, 2, new int[] {0, 0, 1});
            due("same", x.same(0, 1), 1);
        });
        holds(words, "unlike many LETTERS are not asked so, though the same WORDS MAY STAND", () -> {
            Counted x = new Counted();
            x.only(2, 1);
            x.only(3, 1);
            due("same", x.same(0, 1), NO);
        });
    }

    private static void parting(Counted x, int set, int other, String want) {
        due("same", x.same(set, other), 0);
        Sentences.due("THE WORD", x.word(), want);
    }

    private static void whatParts() {
        String words = "else the first WORD (the shortest, of like ones by the first LETTER that differs) that MAY STAND in one alone PARTS them";
        holds(words, "the empty one", () -> {
            Counted x = new Counted();
            x.set(2, 1);
            x.all(2);
            x.spell(1, 1);
            parting(x, 0, 1, "");
            x.spell(1, 1);
            parting(x, 1, 0, "");
        });
        holds(words, "the shortest: 11 ahead of 000", () -> {
            Counted x = new Counted();
            parting(x, x.byForbidding(2, new int[] {0, 0, 0}, new int[] {1, 1}), x.all(2), "11");
            parting(x, x.byForbidding(2, new int[] {1, 0, 1, 1}, new int[] {0, 0, 0, 0, 0}), x.all(2), "1011");
        });
        holds(words, "one that is not FORBIDDEN, but can't go on: 0101, without 01010 and 1011", () -> {
            Counted x = new Counted();
            parting(x, x.byForbidding(2, new int[] {1, 0, 1, 1}, new int[] {0, 1, 0, 1, 0}), x.all(2), "0101");
        });
        holds(words, "of like ones: by the first LETTER, by one amid, by the last", () -> {
            Counted x = new Counted();
            int all = x.all(4);
            int one = x.only(4, 1);
            parting(x, all, one, "1");
            parting(x, x.byForbidding(4, new int[] {1, 0, 0}, new int[] {0, 3, 3}), all, "033");
            parting(x, all, x.byForbidding(4, new int[] {1, 2, 0}, new int[] {1, 1, 3}), "113");
            parting(x, x.byForbidding(4, new int[] {3, 2, 2}, new int[] {3, 2, 1}), all, "321");
        });
        holds(words, "one that MAY STAND in the second alone comes ahead of one in the first alone", () -> {
            Counted x = new Counted();
            int a = x.byForbidding(3, new int[] {0, 1});
            int b = x.byForbidding(3, new int[] {0, 2});
            parting(x, a, b, "01");
            parting(x, b, a, "01");
        });
    }

    /** No LETTER loses all, and just 20000 (20001) sets of STATES are met from all on. */
    private static final int[][] MEETS_20000 = {
        {512, 16384, 64, 4, 8, 1024, 1, 32768, 16, 4096, 8192, 2, 2048, 256, 32, 8192},
        {18, 128, 4096, 8, 1042, 1280, 16386, 6, 64, 1, 256, 2, 2128, 8192, 512, 16384}};
    private static final int[][] MEETS_20001 = {
        {48, 16384, 16, 9, 4100, 18, 10, 16, 128, 68, 2048, 36, 8, 512, 256, 4096},
        {128, 16, 8192, 32, 512, 2048, 1024, 2, 4, 16384, 256, 4096, 32768, 32, 64, 1}};
    /** 20000 (20001) that are not empty, and the empty one long before the last of them. */
    private static final int[][] MEETS_20000_AND_NONE = {
        {2, 256, 48, 1, 4, 16, 4096, 16384, 8192, 8, 32768, 128, 512, 0, 2048, 1024},
        {16384, 64, 1, 4, 512, 1024, 8192, 2048, 256, 128, 1, 16, 8, 4096, 32, 2}};
    private static final int[][] MEETS_20001_AND_NONE = {
        {16, 8, 128, 2064, 16384, 4, 2, 1, 8192, 32768, 256, 512, 4096, 32, 1024, 64},
        {64, 32, 1024, 512, 4, 16384, 8192, 2, 0, 4096, 0, 2048, 32768, 16, 128, 0}};
    /** The empty one comes right behind the 20000th (20001st), going on in the order of the WORDS. */
    private static final int[][] EMPTY_BEHIND_20000 = {
        {32, 0, 8, 256, 8192, 512, 4096, 32768, 1, 16, 128, 2048, 2048, 4, 1024, 64},
        {2048, 32768, 1, 4096, 128, 8, 32, 16384, 256, 2, 33792, 8192, 64, 4, 16, 512}};
    private static final int[][] EMPTY_BEHIND_20001 = {
        {2, 8192, 32768, 1024, 2048, 128, 4096, 64, 32, 256, 512, 16, 8, 4, 16384, 1},
        {32768, 0, 2048, 16, 8192, 256, 0, 68, 32, 64, 16384, 128, 512, 8, 1024, 4096}};

    private static void sameIsSpent() {
        holds("SPENT: looked for by going on, LETTER by LETTER, from pairs of sets of STATES to which a WORD leads, each pair once",
            "WORDS of all lengths lead to few pairs", () -> {
                Counted x = new Counted();
                int golden = x.golden();
                int long1 = x.byForbidding(2, new int[] {0, 1, 1, 0, 1}, new int[] {1, 1});
                due("same", x.same(golden, golden), 1);
                due("same", x.same(long1, x.golden()), 1);
                due("1023 pairs", x.same(x.losingRing(10), x.losingRing(10)), 1);
            });
        holds("more than 20000 pairs are met (the first one counted", "20000 are not, 20001 are", () -> {
            Counted x = new Counted();
            int just = x.byBits(MEETS_20000);
            int over = x.byBits(MEETS_20001);
            int all = x.all(2);
            due("20000 with all", x.same(just, all), 1);
            due("20001 with all", x.same(over, all), SPENT);
            due("20000 the other way round", x.same(all, just), 1);
            due("20001 the other way round", x.same(all, over), SPENT);
            due("20000 with itself", x.same(just, just), 1);
            due("20001 with itself", x.same(over, over), SPENT);
            due("20000 again", x.same(just, all), 1);
        });
        holds("where one of both is empty the WORD PARTS at once", "it is no 20001st pair", () -> {
            Counted x = new Counted();
            int just = x.byBits(EMPTY_BEHIND_20000);
            int over = x.byBits(EMPTY_BEHIND_20001);
            int all = x.all(2);
            due("behind 20000", x.same(just, all), 0);
            due("THE WORD", x.may(just) * 2 + x.may(all), 1);
            due("behind 20000, the other way round", x.same(all, just), 0);
            due("behind 20001", x.same(over, all), SPENT);
            due("behind 20001, the other way round", x.same(all, over), SPENT);
        });
        holds("where one of both is empty the WORD PARTS at once", "though more than 20000 would be met later", () -> {
            Counted x = new Counted();
            int spent = x.byBits(MEETS_20001);
            int golden = x.golden();
            due("with all it would", x.same(spent, x.all(2)), SPENT);
            due("11 parts at once", x.same(spent, golden), 0);
            Sentences.due("THE WORD", x.word(), "11");
        });
        holds("a pair of two empty ones is not met, but as the first one)", "20000 others, and the first one", () -> {
            Counted x = new Counted();
            int just = x.byBits(MEETS_20000_AND_NONE);
            int over = x.byBits(MEETS_20001_AND_NONE);
            due("20000 and two empty ones", x.same(just, just), 1);
            due("20001 and two empty ones", x.same(over, over), SPENT);
            x.set(2, 1);
            x.set(2, 9);
            due("two empty ones at first", x.same(2, 3), 1);
        });
    }

    // ---- terms 2: parts and paces

    private static void partsAre(Counted x, int set, String want) {
        StringBuilder got = new StringBuilder();
        int states = x.about(set, 1);
        for (int s = 0; s < states; s++) {
            int part = x.part(set, s);
            got.append(part == -1 ? "-" : Integer.toHexString(part));
        }
        Sentences.due("PARTS", got.toString(), want);
    }

    private static void parts() {
        holds("PARTS: LIVE STATES from which rows of LIVE WAYS lead to one another, told by their least STATE", "rings, and WAYS between", () -> {
            Counted x = new Counted();
            int set = x.graph(2, 8, new int[] {7, 0, 2}, new int[] {2, 0, 5}, new int[] {5, 0, 7}, new int[] {6, 0, 3},
                new int[] {3, 0, 6}, new int[] {5, 0, 3}, new int[] {0, 0, 7}, new int[] {6, 0, 4});
            partsAre(x, set, "--23-232");
            due("how many", x.about(set, 5), 2);
            x.way(set, 6, 1, 7);
            partsAre(x, set, "--22-222");
            due("how many", x.about(set, 5), 1);
            x.way(set, 4, 1, 0);
            partsAre(x, set, "0-000000");
        });
        holds("PARTS: LIVE STATES from which rows of LIVE WAYS lead to one another, told by their least STATE", "one of sixteen, sixteen of one", () -> {
            Counted x = new Counted();
            x.set(2, 16);
            for (int s = 0; s < 16; s++) {
                x.way(0, s, 0, (s + 5) % 16);
            }
            partsAre(x, 0, "0000000000000000");
            due("one", x.about(0, 5), 1);
            x.set(2, 16);
            for (int s = 0; s < 16; s++) {
                x.way(1, s, 0, s);
                x.way(1, s, 1, Math.max(s - 1, 0));
            }
            partsAre(x, 1, "0123456789abcdef");
            due("sixteen", x.about(1, 5), 16);
        });
        holds("a STATE that no such row leads back to is a PART alone", "between two others", () -> {
            Counted x = new Counted();
            int set = x.graph(2, 4, new int[] {1, 0, 1}, new int[] {1, 1, 3}, new int[] {3, 0, 0}, new int[] {0, 0, 2}, new int[] {2, 0, 2});
            partsAre(x, set, "0123");
            due("how many", x.about(set, 5), 4);
        });
    }

    private static void pacesAre(Counted x, int set, String want) {
        StringBuilder got = new StringBuilder();
        int states = x.about(set, 1);
        for (int s = 0; s < states; s++) {
            got.append(s == 0 ? "" : " ").append(x.pace(set, s));
        }
        Sentences.due("PACES", got.toString(), want);
    }

    private static void paces() {
        String words = "THE PACE of a PART: the greatest number that divides how long each such row from a STATE to itself is";
        holds(words, "1 to 16", () -> {
            Counted x = new Counted();
            x.set(2, 16);
            int last = -1;
            for (int n = 1; n <= 16; n++) {
                if (last >= 0) {
                    x.unway(0, last, 0, 0);
                    x.way(0, last, 0, n - 1);
                }
                last = n - 1;
                x.way(0, last, 0, 0);
                due("a ring of " + n, x.pace(0, n / 2), n);
            }
        });
        holds(words, "rings of 4 and 6 that meet: 2; of 3 too: 1", () -> {
            Counted x = new Counted();
            int set = x.graph(2, 8, new int[] {0, 0, 1}, new int[] {1, 0, 2}, new int[] {2, 0, 3}, new int[] {3, 0, 0},
                new int[] {3, 1, 4}, new int[] {4, 0, 5}, new int[] {5, 0, 0});
            pacesAre(x, set, "2 2 2 2 2 2 -1 -1");
            x.way(set, 2, 1, 0);
            pacesAre(x, set, "1 1 1 1 1 1 -1 -1");
        });
        holds(words, "WAYS out of the PART and into it do not count", () -> {
            Counted x = new Counted();
            int set = x.graph(2, 5, new int[] {0, 0, 0}, new int[] {0, 1, 1}, new int[] {1, 0, 2}, new int[] {2, 0, 1}, new int[] {2, 1, 3},
                new int[] {3, 0, 4}, new int[] {4, 0, 4}, new int[] {4, 1, 3});
            pacesAre(x, set, "1 2 2 1 1");
        });
        holds(words + " (0: there is none)", "a STATE that no row leads back to", () -> {
            Counted x = new Counted();
            int set = x.graph(2, 4, new int[] {0, 0, 0}, new int[] {0, 1, 1}, new int[] {1, 0, 2}, new int[] {2, 0, 3}, new int[] {3, 0, 3});
            pacesAre(x, set, "1 0 0 1");
        });
    }

    // ---- terms 3

    private static void windows() {
        Sentences.at("Terms 3");
        String words = "A WINDOW of w (1 .. 3) LETTERS tells for each row of w LETTERS of one SET a LETTER "
            + "(rows as numbers to the base 4, the first LETTER highest";
        holds(words, "4, 16 and 64 rows", () -> {
            Counted x = new Counted();
            due("0", x.window(0), BAD);
            due("4", x.window(4), BAD);
            for (int w = 1; w <= 3; w++) {
                int rows = 1 << 2 * w;
                x.window(w);
                due("the first row", x.tells(0, 1), 0);
                due("the last row", x.tells(rows - 1, 2), 0);
                due("none behind", x.tells(rows, 1), BAD);
                due("none ahead", x.tells(-1, 1), BAD);
                due("the first row", x.tells(0, 0), 1);
                due("the last row", x.tells(rows - 1, 0), 2);
            }
        });
        holds(words, "01 is 1, 10 is 4, 012 is 6, 210 is 36", () -> {
            Counted x = new Counted();
            // the ring 01 has rows 01 and 10, the ring 012 rows 012, 120 and 201
            int ring = x.graph(2, 2, new int[] {0, 0, 1}, new int[] {1, 1, 0});
            int three = x.graph(3, 3, new int[] {0, 0, 1}, new int[] {1, 1, 2}, new int[] {2, 2, 0});
            int back = x.graph(3, 3, new int[] {0, 2, 1}, new int[] {1, 1, 2}, new int[] {2, 0, 0});
            int nought = x.only(2, 1);
            int one = x.graph(2, 1, new int[] {0, 1, 0});
            x.window(2);
            x.tells(1, 1);
            due("01 to 1", x.maps(ring, one), 0);
            x.tells(4, 1);
            due("10 to 1 too", x.maps(ring, one), 1);
            x.window(3);
            x.tells(6, 1);
            due("012 to 1", x.maps(three, nought), 0);
            due("of 021 nothing is", x.maps(back, nought), 1);
            x.tells(1 * 16 + 2 * 4, 1);
            due("012, 120 to 1", x.maps(three, one), 0);
            x.tells(2 * 16 + 1, 1);
            due("all three to 1", x.maps(three, one), 1);
            x.tells(2 * 16 + 4, 1);
            due("210 to 1", x.maps(back, nought), 0);
        });
        holds("0 at first)", "each row, of each w", () -> {
            Counted x = new Counted();
            for (int row = 0; row < 4; row++) {
                due("of a new object", x.tells(row, 3), 0);
            }
            for (int w = 1; w <= 3; w++) {
                x.window(w);
                for (int row = 0; row < 1 << 2 * w; row++) {
                    due("row " + row + " of " + w, x.tells(row, 3), 0);
                }
            }
        });
        holds("one that the other SET has not MAY NOT STAND there", "2 for two LETTERS, 3 for three", () -> {
            Counted x = new Counted();
            int any = x.all(2);
            int three = x.all(3);
            int four = x.all(4);
            for (int letter = 1; letter < 4; letter++) {
                x.tells(1, letter);
                due("of two", x.maps(any, any), letter < 2 ? 1 : 0);
                due("of three", x.maps(any, three), letter < 3 ? 1 : 0);
                due("of four", x.maps(any, four), 1);
            }
            due("where it is not told it does no harm", x.maps(x.only(2, 1), any), 1);
        });
    }

    private static void mapping() {
        String words = "It MAPS SET a into b if for each WORD that MAY STAND in a the row of LETTERS it tells, "
            + "window by window (none for less than w LETTERS), MAY STAND in b";
        holds(words, "nothing LIVE in a, in b, in both", () -> {
            Counted x = new Counted();
            int none = x.graph(3, 2, new int[] {0, 0, 1});
            int any = x.all(2);
            for (int w = 1; w <= 3; w++) {
                x.window(w);
                due("no WORD in a", x.maps(none, any), 1);
                due("no WORD in both", x.maps(none, none), 1);
                due("the empty one in a, none in b", x.maps(any, none), 0);
            }
        });
        holds(words, "less than w LETTERS tell none", () -> {
            Counted x = new Counted();
            int one = x.graph(2, 1, new int[] {0, 1, 0});
            int nought = x.only(2, 1);
            // all rows but those of w times 1: were there rows of fewer LETTERS, they would be among these
            for (int w = 2; w <= 3; w++) {
                x.window(w);
                int ones = w == 2 ? 5 : 21;
                for (int row = 0; row < 1 << 2 * w; row++) {
                    x.tells(row, row == ones ? 0 : 3);
                }
                due("11.. to 0", x.maps(one, nought), 1);
                x.tells(ones, 1);
                due("11.. to 1", x.maps(one, nought), 0);
                due("11.. to 1", x.maps(one, one), 1);
            }
        });
        holds(words, "by LIVE WAYS alone, in a and in b", () -> {
            Counted x = new Counted();
            int nought = x.only(2, 1);
            int dying = x.graph(2, 3, new int[] {0, 0, 0}, new int[] {0, 1, 1}, new int[] {2, 1, 0});
            int all = x.all(2);
            for (int w = 1; w <= 3; w++) {
                x.window(w);
                for (int row = 1; row < 1 << 2 * w; row++) {
                    x.tells(row, 1);
                }
                due("1 does not stand in a", x.maps(dying, nought), 1);
                due("1 does not stand in b", x.maps(all, dying), 0);
                due("0 alone", x.maps(nought, dying), 1);
            }
        });
        holds(words, "window by window: each LETTER but the first w - 1 ends one", () -> {
            Counted x = new Counted();
            int any = x.all(2);
            int golden = x.golden();
            int thin = x.byForbidding(2, new int[] {1, 1}, new int[] {1, 0, 1});
            x.window(2);
            x.tells(1, 1);
            due("1 where 01 stands", x.maps(any, golden), 1);
            due("but 0101 makes 101", x.maps(any, thin), 0);
            x.tells(4, 1);
            due("and 10: 010 makes 11", x.maps(any, golden), 0);
            x.window(3);
            x.tells(1, 1);
            due("1 where 001 stands", x.maps(any, thin), 1);
            x.tells(20, 1);
            due("and 110: 00110 makes 101", x.maps(any, thin), 0);
            due("and never 11", x.maps(any, golden), 1);
        });
        holds(words, "only WORDS that MAY STAND in a count; a may have more or less LETTERS than b", () -> {
            Counted x = new Counted();
            int golden = x.golden();
            int four = x.all(4);
            x.window(2);
            x.tells(5, 3);
            due("11 to 3", x.maps(golden, golden), 1);
            due("11 to 3", x.maps(four, golden), 0);
            x.tells(5, 0);
            due("all to 0", x.maps(four, golden), 1);
            x.tells(15, 1);
            due("33 to 1: 333 makes 11", x.maps(four, golden), 0);
            due("3 is not in golden", x.maps(golden, four), 1);
        });
    }

    /** As a goes on by three STATES and w is 1, by two and w is 2, by three and 2, by two and 3: 20000 and 20001 are met. */
    private static final int[][][] WAYS_OF_A = {
        {{0, 0, 0}, {0, 1, 0}, {1, 0, 1}, {2, 1, 2}, {2, 0, 1}},
        {{0, 0, 0}, {0, 1, 1}, {1, 0, 0}},
        {{0, 0, 1}, {1, 0, 2}, {2, 1, 0}, {2, 0, 0}, {1, 1, 1}},
        {{0, 0, 0}, {0, 1, 1}, {1, 0, 0}, {1, 1, 1}}};
    private static final int[] STATES_OF_A = {3, 2, 3, 2};
    private static final int[] WIDTHS = {1, 2, 2, 3};
    /** Rows that tell 1. */
    private static final int[][] TOLD = {{1}, {1, 4, 5}, {1, 5}, {1, 5, 16, 20}};
    private static final int[][][] MAPPED_BY_20000 = {{
        {64, 128, 2, 16, 1028, 32768, 2048, 32, 16384, 4096, 1, 8, 1024, 256, 512, 1024},
        {256, 8, 8192, 128, 4, 32, 16384, 1024, 512, 2, 2048, 4096, 32768, 64, 2, 16}}, {
        {2048, 64, 1, 8, 4096, 8192, 1024, 16384, 256, 32768, 32, 2, 4, 128, 16, 512},
        {512, 16384, 4, 8192, 2048, 32, 1, 8, 256, 256, 1024, 64, 32, 32768, 16, 128}}, {
        {32768, 512, 4, 16384, 1024, 64, 2, 1, 128, 128, 8, 256, 2048, 2, 16, 32},
        {32768, 4, 256, 32, 32, 512, 16384, 80, 32768, 16, 4096, 2, 128, 2048, 1024, 8192}}, {
        {256, 16, 2048, 1, 8192, 32, 32768, 64, 2, 8, 4096, 530, 128, 4, 1024, 128},
        {128, 512, 64, 256, 32, 4, 16, 8, 8192, 32768, 1024, 1, 4096, 2048, 16384, 8192}}};
    private static final int[][][] MAPPED_BY_20001 = {{
        {1024, 4, 4096, 32768, 16, 2, 64, 8, 128, 32768, 1, 32, 8192, 16384, 512, 1024},
        {8192, 1, 512, 32, 128, 4096, 17, 8, 64, 2, 2048, 1024, 4, 256, 32768, 16384}}, {
        {10, 2048, 32, 128, 64, 16, 1, 8192, 512, 32768, 4, 16384, 258, 4096, 1024, 8},
        {32768, 128, 512, 4, 1024, 1, 2048, 32, 256, 16, 8192, 64, 16, 32768, 2, 8}}, {
        {8, 256, 2048, 16384, 4096, 516, 1, 64, 64, 32, 32768, 1024, 128, 8192, 2048, 16},
        {256, 2048, 4096, 128, 1024, 512, 8, 4096, 32768, 16384, 4, 32, 1, 8192, 2, 16}}};

    private static void mappingIsSpent() {
        String words = "SPENT: gone on with from a STATE of a, the last w - 1 LETTERS, a set of STATES of b: "
            + "more than 20000 of these are met";
        holds(words, "one STATE of a, one LETTER a window: 20000 sets are not, 20001 are", () -> {
            Counted x = new Counted();
            int just = x.byBits(MEETS_20000);
            int over = x.byBits(MEETS_20001);
            int all = x.all(2);
            x.tells(1, 1);
            due("20000", x.maps(all, just), 1);
            due("20001", x.maps(all, over), SPENT);
            due("20000 again", x.maps(all, just), 1);
            x.tells(1, 0);
            due("all to 0: few", x.maps(all, over), 1);
        });
        holds(words + " (all beginnings counted: each LIVE STATE without LETTERS, with all LIVE ones of b)",
            "20000 with the beginnings are not", () -> {
                for (int i = 0; i < MAPPED_BY_20000.length; i++) {
                    due("the " + i + "th", mapsInto(i, MAPPED_BY_20000[i]), 1);
                }
            });
        holds(words + " (all beginnings counted: each LIVE STATE without LETTERS, with all LIVE ones of b)",
            "20001 with the beginnings are", () -> {
                for (int i = 0; i < MAPPED_BY_20001.length; i++) {
                    due("the " + i + "th", mapsInto(i, MAPPED_BY_20001[i]), SPENT);
                }
            });
    }

    private static int mapsInto(int which, int[][] bits) {
        Counted x = new Counted();
        int a = x.graph(2, STATES_OF_A[which], WAYS_OF_A[which]);
        x.window(WIDTHS[which]);
        for (int row : TOLD[which]) {
            x.tells(row, 1);
        }
        return x.maps(a, x.byBits(bits));
    }

    private static void weights() {
        holds("THE WEIGHTS for p LETTERS of two in q LETTERS (p 1 .. 8, q 1 .. 4), L (1 .. 100) at most: of LIVE STATES L each at first",
            "as many as need be: they stay at L", () -> {
                Counted x = new Counted();
                int four = x.all(4);
                for (int q = 1; q <= 4; q++) {
                    due("2 q LETTERS of two in q of four", x.weights(four, 2 * q, q, 100), 100);
                    due("at most 1", x.weights(four, 2 * q, q, 1), 1);
                }
                due("p 0", x.weights(four, 0, 1, 1), BAD);
                due("p 9", x.weights(four, 9, 1, 1), BAD);
                due("q 0", x.weights(four, 1, 0, 1), BAD);
                due("q 5", x.weights(four, 1, 5, 1), BAD);
                due("L 0", x.weights(four, 1, 1, 0), BAD);
                due("L 101", x.weights(four, 1, 1, 101), BAD);
            });
        String words = "again and again all at once each becomes the lesser of what it is and the sum over rows of q LIVE WAYS from it of what is at their "
            + "ends, by 2 to the p-th, cut";
        holds(words, "too few rows: 9 of 16, 27 of 32, 81 of 128", () -> {
            Counted x = new Counted();
            int three = x.all(3);
            due("3 of 4", x.weights(three, 2, 1, 100), 0);
            due("9 of 8", x.weights(three, 3, 2, 100), 100);
            due("9 of 16", x.weights(three, 4, 2, 100), 0);
            due("27 of 16", x.weights(three, 4, 3, 100), 100);
            due("27 of 32", x.weights(three, 5, 3, 100), 0);
            due("81 of 64", x.weights(three, 6, 4, 100), 100);
            due("81 of 128", x.weights(three, 7, 4, 100), 0);
        });
        holds(words, "cut: golden by 2 in 3 is 10 and 6", () -> {
            Counted x = new Counted();
            int golden = x.golden();
            due("of 0", x.weight(golden, 2, 3, 10, 0), 10);
            due("of 1", x.weight(golden, 2, 3, 10, 1), 6);
            due("sum", x.weights(golden, 2, 3, 10), 16);
            due("L 2", x.weights(golden, 2, 3, 2), 3);
            due("L 1: 1 by 3 of 4 is cut to 0, then 0 by 3 of 4 too", x.weights(golden, 2, 3, 1), 0);
        });
        holds(words, "LIVE STATES and WAYS alone", () -> {
            Counted x = new Counted();
            int set = x.graph(2, 3, new int[] {0, 0, 0}, new int[] {0, 1, 0}, new int[] {0, 1, 1}, new int[] {2, 0, 0});
            due("sum", x.weights(set, 1, 1, 9), 9);
            due("led to", x.weight(set, 1, 1, 9, 1), 0);
            due("leading", x.weight(set, 1, 1, 9, 2), 0);
        });
        holds("till nothing changes", "they fall by 153 steps, till none are left", () -> {
            Counted x = new Counted();
            int slow = x.graph(2, 6, new int[][] {{3, 0, 4}, {4, 1, 0}, {0, 1, 3}, {5, 1, 2}, {1, 0, 3}, {3, 1, 5}, {4, 1, 5}, {2, 1, 4},
                {0, 1, 1}, {4, 1, 1}, {5, 1, 3}, {1, 1, 1}, {2, 1, 5}, {2, 0, 5}, {2, 0, 1}, {4, 0, 4}, {3, 1, 1}, {3, 0, 0}});
            due("all LIVE", x.about(slow, 3), 6);
            due("sum", x.weights(slow, 3, 2, 100), 0);
            due("one", x.weight(slow, 3, 2, 100, 1), 0);
        });
    }

    // ---- refused

    private static void refused() {
        Sentences.at("Refused");
        holds("the first of: BAD -2 a number is not as told", "ahead of NO", () -> {
            Counted x = new Counted();
            int none = x.set(3, 1);
            x.set(2, 1);
            x.way(1, 0, 0, 0);
            x.spell(3, 3, 3, 3);
            x.forbid();
            Sentences.refused(x, BAD, "growth: nothing LIVE, t 10", () -> x.growth(none, 10, 0));
            Sentences.refused(x, BAD, "growth: nothing LIVE, what 4", () -> x.growth(none, 0, 4));
            Sentences.refused(x, NO, "growth: nothing LIVE", () -> x.growth(none, 0, 0));
            Sentences.refused(x, BAD, "same: unlike LETTERS, no SET 2", () -> x.same(0, 2));
            Sentences.refused(x, BAD, "same: unlike LETTERS, no SET 2", () -> x.same(2, 0));
            Sentences.refused(x, NO, "same: unlike LETTERS", () -> x.same(0, 1));
            Sentences.refused(x, BAD, "byWords: above 16 STATES, a LETTER that it has not", () -> x.byWords(3));
            Sentences.refused(x, NO, "byWords: above 16 STATES", () -> x.byWords(4));
        });
        holds("the first of: BAD -2 a number is not as told", "ahead of FULL", () -> {
            Counted x = new Counted();
            for (int i = 0; i < 6; i++) {
                x.set(2, 1);
            }
            for (int i = 0; i < 30; i++) {
                x.letter(2);
            }
            Sentences.refused(x, FULL, "set", () -> x.set(2, 1));
            Sentences.refused(x, BAD, "set of five LETTERS", () -> x.set(5, 1));
            Sentences.refused(x, BAD, "set of no STATES", () -> x.set(2, 0));
            Sentences.refused(x, FULL, "letter", () -> x.letter(0));
            Sentences.refused(x, BAD, "letter 4", () -> x.letter(4));
            Sentences.refused(x, FULL, "byWords", () -> x.byWords(2));
            Sentences.refused(x, BAD, "byWords of five LETTERS", () -> x.byWords(5));
            x.spell(2);
            x.forbid();
            Sentences.refused(x, BAD, "byWords: a LETTER that it has not", () -> x.byWords(2));
            Sentences.refused(x, FULL, "byWords", () -> x.byWords(3));
        });
        holds("the first of: BAD -2 a number is not as told", "ahead of SPENT", () -> {
            Counted x = new Counted();
            int over = x.byBits(MEETS_20001);
            int all = x.all(2);
            x.tells(1, 1);
            Sentences.refused(x, SPENT, "same", () -> x.same(over, all));
            Sentences.refused(x, BAD, "same", () -> x.same(over, 2));
            Sentences.refused(x, SPENT, "maps", () -> x.maps(all, over));
            Sentences.refused(x, BAD, "maps", () -> x.maps(-1, over));
        });
        holds("NO -3 as told", "ahead of FULL", () -> {
            Counted x = new Counted();
            x.spell(0, 0, 0, 0);
            for (int i = 0; i < 8; i++) {
                x.forbid();
            }
            for (int i = 0; i < 6; i++) {
                x.set(2, 1);
            }
            Sentences.refused(x, FULL, "forbid", () -> x.forbid());
            Sentences.refused(x, FULL, "byWords", () -> x.byWords(2));
            Sentences.refused(x, NO, "byWords above 16 STATES", () -> x.byWords(3));
            x.empty();
            Sentences.refused(x, NO, "forbid no LETTERS", () -> x.forbid());
            x.spell(0, 0, 0, 0, 0, 0);
            Sentences.refused(x, NO, "forbid six LETTERS", () -> x.forbid());
        });
        holds("NO -3 as told", "ahead of SPENT", () -> {
            Counted x = new Counted();
            int over = x.byBits(MEETS_20001);
            Sentences.refused(x, SPENT, "same", () -> x.same(over, over));
            int three = x.all(3);
            Sentences.refused(x, NO, "same, unlike LETTERS", () -> x.same(over, three));
            Sentences.refused(x, NO, "same, unlike LETTERS", () -> x.same(three, over));
        });
    }

    private static void refusedChangesNothing() {
        holds("Refused, changing nothing, the first of: BAD -2 a number is not as told", "each call, with numbers far off", () -> {
            for (int odd : new int[] {Integer.MIN_VALUE, -1000000007, -7, -1, 101, 65536, 1 << 28, 1 << 30, Integer.MAX_VALUE}) {
                Counted x = Counted.filled();
                Sentences.refused(x, BAD, "set", () -> x.set(odd, odd));
                Sentences.refused(x, BAD, "way", () -> x.way(odd, odd, odd, odd));
                Sentences.refused(x, BAD, "unway", () -> x.unway(odd, odd, odd, odd));
                Sentences.refused(x, BAD, "letter", () -> x.letter(odd));
                Sentences.refused(x, BAD, "byWords", () -> x.byWords(odd));
                Sentences.refused(x, BAD, "about", () -> x.about(odd, odd));
                Sentences.refused(x, BAD, "live", () -> x.live(odd, odd));
                Sentences.refused(x, BAD, "may", () -> x.may(odd));
                Sentences.refused(x, BAD, "howMany", () -> x.howMany(odd, odd));
                Sentences.refused(x, BAD, "loops", () -> x.loops(odd, odd));
                Sentences.refused(x, BAD, "rounds", () -> x.rounds(odd, odd));
                Sentences.refused(x, BAD, "growth", () -> x.growth(odd, odd, odd));
                Sentences.refused(x, BAD, "same", () -> x.same(odd, odd));
                Sentences.refused(x, BAD, "part", () -> x.part(odd, odd));
                Sentences.refused(x, BAD, "pace", () -> x.pace(odd, odd));
                Sentences.refused(x, BAD, "window", () -> x.window(odd));
                Sentences.refused(x, BAD, "tells", () -> x.tells(odd, odd));
                Sentences.refused(x, BAD, "maps", () -> x.maps(odd, odd));
                Sentences.refused(x, BAD, "weights", () -> x.weights(odd, odd, odd, odd));
                Sentences.refused(x, BAD, "weight", () -> x.weight(odd, odd, odd, odd, odd));
                Sentences.refused(x, BAD, "count", () -> x.count(odd));
            }
        });
        holds("NO -3 as told", "each call that answers so changes nothing", () -> {
            Counted x = Counted.filled();
            int none = x.set(2, 1);
            Sentences.refused(x, NO, "way that is there", () -> x.way(0, 0, 1, 1));
            Sentences.refused(x, NO, "unway that is not", () -> x.unway(0, 1, 1, 1));
            Sentences.refused(x, NO, "growth of nothing LIVE", () -> x.growth(none, 9, 3));
            Sentences.refused(x, NO, "same of unlike LETTERS", () -> x.same(0, 1));
            x.spell(0, 1, 0, 1, 1, 1);
            Sentences.refused(x, NO, "forbid six LETTERS", () -> x.forbid());
            x.spell(0, 1, 0, 1);
            x.forbid();
            Sentences.refused(x, NO, "byWords above 16 STATES", () -> x.byWords(3));
        });
        holds("FULL -4", "each call that answers so changes nothing", () -> {
            Counted x = Counted.filled();
            while (x.count(0) < 6) {
                x.set(3, 3);
            }
            while (x.count(2) < 8) {
                x.forbid();
            }
            Sentences.refused(x, FULL, "forbid", () -> x.forbid());
            while (x.count(1) < 30) {
                x.letter(3);
            }
            Sentences.refused(x, FULL, "letter", () -> x.letter(1));
            Sentences.refused(x, FULL, "set", () -> x.set(2, 2));
            Sentences.refused(x, FULL, "byWords", () -> x.byWords(2));
        });
        holds("SPENT -5", "each call that answers so changes nothing", () -> {
            Counted x = new Counted();
            int over = x.byBits(MEETS_20001);
            int all = x.all(2);
            int ring = x.losingRing(15);
            x.tells(1, 1);
            x.spell(1, 0, 1);
            Sentences.refused(x, SPENT, "same", () -> x.same(over, over));
            Sentences.refused(x, SPENT, "same, that would part later", () -> x.same(all, ring));
            Sentences.refused(x, SPENT, "maps", () -> x.maps(all, over));
            Sentences.due("THE WORD", x.word(), "101");
        });
    }
}
