/** Promise by promise: a test for each sentence, its edges and its refused calls. */
public final class Promises {
    private static final int NONE = -1, BAD = -2, NO = -3, FULL = -4, SPENT = -5;

    public static void main(String[] args) {
        newObject();
        set();
        way();
        unway();
        empty();
        letter();
        letterAt();
        forbid();
        unforbid();
        byWords();
        about();
        live();
        may();
        howMany();
        loops();
        rounds();
        growth();
        same();
        part();
        pace();
        window();
        tells();
        maps();
        weights();
        weight();
        count();
        digest();
        Sentences.end();
    }

    private static void promise(int number) {
        Sentences.at("Promise " + number);
    }

    private static void holds(String words, String theCase, Runnable test) {
        Sentences.holds(words, theCase, test);
    }

    private static void due(String call, long got, long want) {
        Sentences.due(call, got, want);
    }

    private static void refused(Counted x, long want, String call, java.util.function.LongSupplier answer) {
        Sentences.refused(x, want, call, answer);
    }

    /** Asked on an object that is filled: all that it holds stays. */
    private static void asked(Counted x, long want, String call, java.util.function.LongSupplier answer) {
        Sentences.refused(x, want, call, answer);
    }

    private static int[] outside(int least, int most) {
        return Sentences.outside(least, most);
    }

    private static void holdsJust(Counted x, Held want) {
        due("what it holds, by digest()", x.digest(), want.digest());
    }

    private static long digestOf(long... values) {
        return Held.digestOf(values);
    }

    // ---- promise 1

    private static void newObject() {
        promise(1);
        holds("No SETS", "none is numbered 0", () -> {
            Counted x = new Counted();
            due("count(0)", x.count(0), 0);
            due("about(0, 0)", x.about(0, 0), BAD);
            due("the first", x.set(2, 1), 0);
        });
        holds("no WORDS told", "none to be FORBIDDEN", () -> {
            Counted x = new Counted();
            due("count(2)", x.count(2), 0);
            due("unforbid()", x.unforbid(), 0);
        });
        holds("THE WORD is empty", "no LETTER of it", () -> {
            Counted x = new Counted();
            due("count(1)", x.count(1), 0);
            due("letterAt(0)", x.letterAt(0), NONE);
            due("empty()", x.empty(), 0);
        });
        holds("WINDOW of 1", "four rows, all 0", () -> {
            Counted x = new Counted();
            due("count(3)", x.count(3), 1);
            for (int row = 0; row < 4; row++) {
                due("tells(" + row + ", 1)", x.tells(row, 1), 0);
            }
            due("tells(4, 1)", x.tells(4, 1), BAD);
        });
        holds("No SETS", "whatever other objects have been called for", () -> {
            Counted other = new Counted();
            other.golden();
            other.spell(1, 2, 3);
            other.window(3);
            other.tells(0, 2);
            Counted x = new Counted();
            due("digest()", x.digest(), digestOf(0, 0, 0, 1, 0, 0, 0, 0));
            x.set(4, 16);
            x.letter(0);
            x.window(1);
            x.unforbid();
            x.forbid();
            Held h = new Held();
            h.sets.add(new int[] {2, 2, 3, 2, 3, 1, 2, 1, 0});
            h.forbidden.add(new int[] {1, 1});
            h.word = new int[] {1, 2, 3};
            h.window(3);
            h.told[0] = 2;
            holdsJust(other, h);
        });
    }

    // ---- promise 2

    private static void set() {
        promise(2);
        holds("A SET without WAYS: its number", "0 to 5, with the least and the most LETTERS and STATES", () -> {
            Counted x = new Counted();
            int[][] told = {{2, 1}, {2, 16}, {3, 1}, {3, 16}, {4, 1}, {4, 16}};
            for (int i = 0; i < 6; i++) {
                due("set", x.set(told[i][0], told[i][1]), i);
                int[] want = {told[i][0], told[i][1], 0, 0, 0, 0};
                for (int what = 0; what < 6; what++) {
                    due("about " + what, x.about(i, what), want[what]);
                }
            }
        });
        holds("A SET without WAYS: its number", "all else stays", () -> {
            Counted x = Counted.filled();
            Held h = Held.filled();
            due("set", x.set(4, 1), 2);
            h.sets.add(new int[] {4, 1, 0, 0, 0, 0, 0, 0, 0});
            holdsJust(x, h);
        });
        holds("BAD", "less than 2 LETTERS, more than 4", () -> {
            Counted x = new Counted();
            for (int odd : outside(2, 4)) {
                refused(x, BAD, "set(" + odd + ", 1)", () -> x.set(odd, 1));
                refused(x, BAD, "set(" + odd + ", 16)", () -> x.set(odd, 16));
            }
        });
        holds("BAD", "less than 1 STATE, more than 16", () -> {
            Counted x = new Counted();
            for (int odd : outside(1, 16)) {
                refused(x, BAD, "set(2, " + odd + ")", () -> x.set(2, odd));
                refused(x, BAD, "set(4, " + odd + ")", () -> x.set(4, odd));
            }
        });
        holds("FULL: 6", "the seventh, made by hand or BY WORDS", () -> {
            Counted x = new Counted();
            for (int i = 0; i < 6; i++) {
                due("one of six", i % 2 == 0 ? x.set(2, 1) : x.byWords(2), i);
            }
            refused(x, FULL, "set(2, 1)", () -> x.set(2, 1));
            refused(x, FULL, "set(4, 16)", () -> x.set(4, 16));
        });
    }

    // ---- promises 3, 4

    private static void way() {
        promise(3);
        holds("A WAY: 1", "from the first STATE to the last and back, by the first LETTER and the last", () -> {
            Counted x = new Counted();
            x.set(4, 16);
            due("way", x.way(0, 0, 0, 15), 1);
            due("way", x.way(0, 15, 3, 0), 1);
            due("way", x.way(0, 15, 3, 15), 1);
            due("WAYS", x.about(0, 2), 3);
            due("digest()", x.digest(), digestOfWays(new int[] {0, 0, 15}, new int[] {15, 3, 0}, new int[] {15, 3, 15}));
        });
        holds("A WAY: 1", "of one SET, not of another", () -> {
            Counted x = new Counted();
            x.set(2, 2);
            x.set(2, 2);
            due("way", x.way(1, 0, 1, 1), 1);
            due("WAYS of 0", x.about(0, 2), 0);
            due("WAYS of 1", x.about(1, 2), 1);
            due("the like one of 0", x.way(0, 0, 1, 1), 1);
        });
        holds("A WAY: 1", "all else stays", () -> {
            Counted x = Counted.filled();
            Held h = Held.filled();
            due("way", x.way(0, 1, 1, 1), 1);
            h.sets.set(0, new int[] {2, 2, 4, 2, 4, 1, 2, 1, 2});
            holdsJust(x, h);
        });
        badWays("way", Counted::way);
        holds("NO: it is there", "alike, in a SET by hand and in one BY WORDS", () -> {
            Counted x = new Counted();
            int hand = x.graph(2, 2, new int[] {0, 1, 1});
            refused(x, NO, "again", () -> x.way(hand, 0, 1, 1));
            int words = x.golden();
            refused(x, NO, "01", () -> x.way(words, 0, 1, 1));
            due("11 is not there", x.way(words, 1, 1, 1), 1);
            refused(x, NO, "11 is there then", () -> x.way(words, 1, 1, 1));
        });
    }

    private static void unway() {
        promise(4);
        holds("A WAY goes: 1", "that one alone, and may come again", () -> {
            Counted x = new Counted();
            x.graph(2, 2, new int[] {0, 0, 0}, new int[] {0, 0, 1}, new int[] {1, 0, 0}, new int[] {0, 1, 1});
            due("LIVE WAYS", x.about(0, 4), 4);
            due("unway", x.unway(0, 1, 0, 0), 1);
            due("WAYS", x.about(0, 2), 3);
            due("LIVE STATES", x.about(0, 3), 1);
            due("LIVE WAYS", x.about(0, 4), 1);
            due("way", x.way(0, 1, 0, 0), 1);
            due("LIVE WAYS", x.about(0, 4), 4);
            due("of two between the same STATES", x.unway(0, 0, 0, 1), 1);
            due("the other stays", x.way(0, 0, 1, 1), NO);
        });
        holds("A WAY goes: 1", "the last one, of the last STATE and LETTER", () -> {
            Counted x = new Counted();
            x.graph(4, 16, new int[] {15, 3, 15});
            due("unway", x.unway(0, 15, 3, 15), 1);
            due("digest()", x.digest(), digestOfWays());
        });
        holds("A WAY goes: 1", "all else stays", () -> {
            Counted x = Counted.filled();
            Held h = Held.filled();
            due("unway", x.unway(0, 0, 0, 0), 1);
            h.sets.set(0, new int[] {2, 2, 2, 2, 2, 0, 2, 1, 0});
            holdsJust(x, h);
        });
        badWays("unway", Counted::unway);
        holds("NO: there is none", "none at all; unlike in one number; gone already", () -> {
            Counted x = new Counted();
            x.set(3, 3);
            refused(x, NO, "none", () -> x.unway(0, 0, 0, 0));
            x.way(0, 1, 1, 1);
            refused(x, NO, "from another", () -> x.unway(0, 0, 1, 1));
            refused(x, NO, "by another", () -> x.unway(0, 1, 0, 1));
            refused(x, NO, "to another", () -> x.unway(0, 1, 1, 0));
            due("unway", x.unway(0, 1, 1, 1), 1);
            refused(x, NO, "gone", () -> x.unway(0, 1, 1, 1));
        });
    }

    private interface OfWay {
        int answer(Counted x, int set, int from, int letter, int to);
    }

    private static void badWays(String name, OfWay call) {
        holds("BAD", "no such SET", () -> {
            Counted x = new Counted();
            refused(x, BAD, name + ", no SETS", () -> call.answer(x, 0, 0, 0, 0));
            x.graph(3, 5, new int[] {0, 0, 0});
            x.graph(2, 16, new int[] {0, 0, 0});
            for (int odd : outside(0, 1)) {
                refused(x, BAD, name + " of SET " + odd, () -> call.answer(x, odd, 0, 0, 0));
            }
        });
        holds("BAD", "no such STATE to go from", () -> {
            Counted x = new Counted();
            x.graph(3, 5, new int[] {0, 0, 0});
            x.graph(2, 16, new int[] {0, 0, 0});
            for (int odd : outside(0, 4)) {
                refused(x, BAD, name + " from " + odd + " of 5", () -> call.answer(x, 0, odd, 0, 0));
            }
            for (int odd : outside(0, 15)) {
                refused(x, BAD, name + " from " + odd + " of 16", () -> call.answer(x, 1, odd, 0, 0));
            }
        });
        holds("BAD", "no such LETTER of the SET", () -> {
            Counted x = new Counted();
            x.graph(3, 5, new int[] {0, 0, 0});
            x.graph(2, 16, new int[] {0, 0, 0});
            for (int odd : outside(0, 2)) {
                refused(x, BAD, name + " by " + odd + " of 3", () -> call.answer(x, 0, 0, odd, 0));
            }
            for (int odd : outside(0, 1)) {
                refused(x, BAD, name + " by " + odd + " of 2", () -> call.answer(x, 1, 0, odd, 0));
            }
        });
        holds("BAD", "no such STATE to go to", () -> {
            Counted x = new Counted();
            x.graph(3, 5, new int[] {0, 0, 0});
            x.graph(2, 16, new int[] {0, 0, 0});
            for (int odd : outside(0, 4)) {
                refused(x, BAD, name + " to " + odd + " of 5", () -> call.answer(x, 0, 0, 0, odd));
            }
            for (int odd : outside(0, 15)) {
                refused(x, BAD, name + " to " + odd + " of 16", () -> call.answer(x, 1, 0, 0, odd));
            }
        });
    }

    // ---- promises 5, 6, 7

    private static void empty() {
        promise(5);
        holds("THE WORD is empty: how long it was", "0, 1 and 30 LETTERS", () -> {
            Counted x = new Counted();
            due("empty()", x.empty(), 0);
            x.letter(3);
            due("empty()", x.empty(), 1);
            due("empty()", x.empty(), 0);
            for (int i = 0; i < 30; i++) {
                x.letter(i & 3);
            }
            due("empty()", x.empty(), 30);
            due("count(1)", x.count(1), 0);
            due("letterAt(0)", x.letterAt(0), NONE);
            due("letter(2)", x.letter(2), 1);
        });
        holds("THE WORD is empty: how long it was", "all else stays", () -> {
            Counted x = Counted.filled();
            Held h = Held.filled();
            due("empty()", x.empty(), 3);
            h.word = new int[0];
            holdsJust(x, h);
        });
        holds("THE WORD is empty: how long it was", "WORDS to be FORBIDDEN stay", () -> {
            Counted x = new Counted();
            x.spell(1, 1);
            x.forbid();
            due("empty()", x.empty(), 2);
            due("count(2)", x.count(2), 1);
            due("WAYS", x.about(x.byWords(2), 2), 3);
        });
    }

    private static void letter() {
        promise(6);
        holds("A LETTER (0 .. 3) comes behind THE WORD: how long it is", "1 to 30, each LETTER, though no SET has it", () -> {
            Counted x = new Counted();
            for (int i = 0; i < 30; i++) {
                due("letter", x.letter((i + i / 4) % 4), i + 1);
            }
            Sentences.due("THE WORD", x.word(), "012312302301301201231230230130");
        });
        holds("A LETTER (0 .. 3) comes behind THE WORD: how long it is", "all else stays", () -> {
            Counted x = Counted.filled();
            Held h = Held.filled();
            due("letter(2)", x.letter(2), 4);
            h.word = new int[] {0, 1, 0, 2};
            holdsJust(x, h);
        });
        holds("BAD", "below 0, above 3", () -> {
            Counted x = new Counted();
            x.spell(2);
            for (int odd : outside(0, 3)) {
                refused(x, BAD, "letter(" + odd + ")", () -> x.letter(odd));
            }
        });
        holds("FULL: 30", "the 31st", () -> {
            Counted x = new Counted();
            for (int i = 0; i < 30; i++) {
                x.letter(1);
            }
            for (int l = 0; l < 4; l++) {
                int more = l;
                refused(x, FULL, "letter(" + l + ")", () -> x.letter(more));
            }
            due("count(1)", x.count(1), 30);
            x.empty();
            due("room again", x.letter(0), 1);
        });
        holds("FULL: 30", "behind a WORD of 30 that PARTS", () -> {
            Counted x = new Counted();
            due("same", x.same(x.rings(28), x.all(2)), 0);
            refused(x, FULL, "letter(0)", () -> x.letter(0));
            due("empty()", x.empty(), 30);
        });
    }

    private static void letterAt() {
        promise(7);
        holds("LETTER i of THE WORD", "the first to the 30th", () -> {
            Counted x = new Counted();
            for (int i = 0; i < 30; i++) {
                x.letter(i * 7 / 3 & 3);
            }
            for (int i = 0; i < 30; i++) {
                due("letterAt(" + i + ")", x.letterAt(i), i * 7 / 3 & 3);
            }
        });
        holds("LETTER i of THE WORD", "nothing changes", () -> {
            Counted x = Counted.filled();
            asked(x, 1, "letterAt(1)", () -> x.letterAt(1));
            asked(x, NONE, "letterAt(3)", () -> x.letterAt(3));
        });
        holds("NONE: not so long", "just behind the last of 0, 1, 29 and 30", () -> {
            Counted x = new Counted();
            due("of 0", x.letterAt(0), NONE);
            for (int length = 1; length <= 30; length++) {
                x.letter(3);
                due("the last of " + length, x.letterAt(length - 1), 3);
                due("behind " + length, x.letterAt(length), NONE);
            }
            x.empty();
            due("of 0 again", x.letterAt(0), NONE);
        });
        holds("NONE: not so long", "numbers that no WORD has a LETTER for", () -> {
            Counted x = new Counted();
            x.spell(1, 2);
            for (int odd : outside(0, 29)) {
                refused(x, NONE, "letterAt(" + odd + ")", () -> x.letterAt(odd));
            }
        });
    }

    // ---- promises 8, 9

    private static void forbid() {
        promise(8);
        holds("THE WORD is one of those to be FORBIDDEN (1 .. 5 LETTERS): how many", "1 to 8, of 1 and of 5 LETTERS", () -> {
            Counted x = new Counted();
            for (int i = 1; i <= 8; i++) {
                x.spell(i % 2 == 0 ? new int[] {1} : new int[] {0, 1, 2, 3, i & 3});
                due("forbid()", x.forbid(), i);
            }
            due("count(2)", x.count(2), 8);
            due("THE WORD stays", x.count(1), 1);
        });
        holds("THE WORD is one of those to be FORBIDDEN (1 .. 5 LETTERS): how many", "alike ones count each", () -> {
            Counted x = new Counted();
            x.spell(1, 1);
            due("forbid()", x.forbid(), 1);
            due("forbid()", x.forbid(), 2);
            due("WAYS", x.about(x.byWords(2), 2), 3);
        });
        holds("THE WORD is one of those to be FORBIDDEN (1 .. 5 LETTERS): how many", "as it is then, whatever it becomes", () -> {
            Counted x = new Counted();
            x.spell(1);
            x.forbid();
            x.empty();
            x.letter(0);
            int set = x.byWords(2);
            due("0 MAY STAND", x.may(set), 1);
            x.spell(1);
            due("1 may not", x.may(set), 0);
        });
        holds("THE WORD is one of those to be FORBIDDEN (1 .. 5 LETTERS): how many", "all else stays", () -> {
            Counted x = Counted.filled();
            Held h = Held.filled();
            due("forbid()", x.forbid(), 2);
            h.forbidden.add(new int[] {0, 1, 0});
            holdsJust(x, h);
        });
        holds("NO: its length", "0, 6 and 30 LETTERS", () -> {
            Counted x = new Counted();
            refused(x, NO, "0", () -> x.forbid());
            x.spell(0, 1, 0, 1, 0);
            due("5", x.forbid(), 1);
            x.letter(1);
            refused(x, NO, "6", () -> x.forbid());
            while (x.count(1) < 30) {
                x.letter(1);
            }
            refused(x, NO, "30", () -> x.forbid());
        });
        holds("FULL: 8", "the ninth", () -> {
            Counted x = new Counted();
            x.spell(3, 3, 3, 3, 3);
            for (int i = 1; i <= 8; i++) {
                due("forbid()", x.forbid(), i);
            }
            refused(x, FULL, "five LETTERS", () -> x.forbid());
            x.spell(0);
            refused(x, FULL, "one LETTER", () -> x.forbid());
            x.unforbid();
            due("room again", x.forbid(), 1);
        });
    }

    private static void unforbid() {
        promise(9);
        holds("None is to be FORBIDDEN any more: how many were", "0, 1 and 8", () -> {
            Counted x = new Counted();
            due("unforbid()", x.unforbid(), 0);
            x.spell(1, 0);
            x.forbid();
            due("unforbid()", x.unforbid(), 1);
            due("unforbid()", x.unforbid(), 0);
            for (int i = 0; i < 8; i++) {
                x.forbid();
            }
            due("unforbid()", x.unforbid(), 8);
            due("count(2)", x.count(2), 0);
            due("all WAYS", x.about(x.byWords(2), 2), 4);
            due("THE WORD stays", x.count(1), 2);
        });
        holds("None is to be FORBIDDEN any more: how many were", "all else stays", () -> {
            Counted x = Counted.filled();
            Held h = Held.filled();
            due("unforbid()", x.unforbid(), 1);
            h.forbidden.clear();
            holdsJust(x, h);
        });
        holds("None is to be FORBIDDEN any more: how many were", "longer ones leave nothing behind in shorter ones", () -> {
            Counted x = new Counted();
            x.spell(1, 1, 0, 1, 1);
            x.forbid();
            x.unforbid();
            x.spell(0, 0);
            x.forbid();
            int set = x.byWords(2);
            due("STATES", x.about(set, 1), 2);
            due("WAYS", x.about(set, 2), 3);
            due("00 is gone", x.way(set, 0, 0, 0), 1);
        });
        holds("None is to be FORBIDDEN any more: how many were", "nor do their LETTERS, that a SET has not", () -> {
            Counted x = new Counted();
            x.spell(3, 2, 3, 2, 3);
            x.forbid();
            x.unforbid();
            x.spell(1);
            x.forbid();
            due("byWords(2)", x.byWords(2), 0);
            due("WAYS", x.about(0, 2), 1);
        });
        holds("None is to be FORBIDDEN any more: how many were", "SETS that were made BY WORDS stay", () -> {
            Counted x = new Counted();
            int golden = x.golden();
            due("unforbid()", x.unforbid(), 1);
            due("WAYS", x.about(golden, 2), 3);
        });
    }

    // ---- promise 10

    private static void byWords() {
        promise(10);
        holds("A SET BY WORDS: its number", "0 to 5, for 2, 3 and 4 LETTERS", () -> {
            Counted x = new Counted();
            for (int i = 0; i < 6; i++) {
                int k = 2 + i % 3;
                due("byWords(" + k + ")", x.byWords(k), i);
                due("LETTERS", x.about(i, 0), k);
                due("STATES", x.about(i, 1), k);
                due("WAYS", x.about(i, 2), k * k);
            }
        });
        holds("A SET BY WORDS: its number", "it is as any other; what is to be FORBIDDEN stays, and THE WORD", () -> {
            Counted x = new Counted();
            x.spell(1, 1);
            x.forbid();
            due("byWords(2)", x.byWords(2), 0);
            due("count(1)", x.count(1), 2);
            due("count(2)", x.count(2), 1);
            due("byWords(3)", x.byWords(3), 1);
            due("golden", x.howMany(0, 10), 144);
            due("a WAY more", x.way(0, 1, 1, 1), 1);
            due("all", x.howMany(0, 10), 1024);
            due("not in the other", x.may(1), 0);
        });
        holds("A SET BY WORDS: its number", "all else stays", () -> {
            Counted x = Counted.filled();
            Held h = Held.filled();
            due("byWords(3)", x.byWords(3), 2);
            h.sets.add(new int[] {3, 3, 8, 3, 8, 1, 2, 4, 1, 0, 4, 1, 2, 4});
            holdsJust(x, h);
        });
        holds("BAD: also a FORBIDDEN WORD with a LETTER that it has not", "less than 2 LETTERS, more than 4", () -> {
            Counted x = new Counted();
            for (int odd : outside(2, 4)) {
                refused(x, BAD, "byWords(" + odd + ")", () -> x.byWords(odd));
            }
        });
        holds("BAD: also a FORBIDDEN WORD with a LETTER that it has not", "k in a SET of k, first, amid and last in a WORD, in any of eight", () -> {
            for (int k = 2; k < 4; k++) {
                int letters = k;
                for (int at = 0; at < 3; at++) {
                    Counted x = new Counted();
                    int[] word = new int[3];
                    word[at] = k;
                    x.forbidJust(new int[1], word, new int[2]);
                    refused(x, BAD, k + " at " + at, () -> x.byWords(letters));
                    due("one LETTER more has it", x.byWords(k + 1), 0);
                }
                Counted x = new Counted();
                x.forbidJust(new int[1], new int[1], new int[1], new int[1], new int[1], new int[1], new int[1], new int[] {k});
                refused(x, BAD, k + " in the eighth", () -> x.byWords(letters));
                x.forbidJust(new int[1], new int[1], new int[] {0, k - 1});
                due("k - 1 is not too large", x.byWords(k), 0);
            }
        });
        holds("NO: above 16 STATES", "4 and 5 LETTERS of three and of four", () -> {
            for (int length = 4; length <= 5; length++) {
                Counted x = new Counted();
                x.forbidJust(new int[length], new int[1]);
                refused(x, NO, "of three", () -> x.byWords(3));
                refused(x, NO, "of four", () -> x.byWords(4));
                due("of two", x.byWords(2), 0);
                due("STATES", x.about(0, 1), 1 << length - 1);
            }
        });
        holds("NO: above 16 STATES", "just 16 are not", () -> {
            Counted x = new Counted();
            x.forbidJust(new int[5]);
            due("2 to the 4th", x.byWords(2), 0);
            x.forbidJust(new int[3]);
            due("4 to the 2nd", x.byWords(4), 1);
            due("STATES", x.about(0, 1) + x.about(1, 1), 32);
        });
        holds("FULL", "the seventh SET", () -> {
            Counted x = new Counted();
            x.spell(1, 1);
            x.forbid();
            for (int i = 0; i < 6; i++) {
                due("byWords(2)", x.byWords(2), i);
            }
            refused(x, FULL, "byWords(2)", () -> x.byWords(2));
            refused(x, FULL, "byWords(4)", () -> x.byWords(4));
        });
    }

    // ---- promises 11, 12, 13

    private static void about() {
        promise(11);
        holds("Of a SET: 0 LETTERS, 1 STATES, 2 WAYS, 3 LIVE STATES, 4 LIVE WAYS, 5 PARTS", "each unlike the others", () -> {
            Counted x = new Counted();
            // 0 leads to 1, 1 and 2 to one another, 2 to 3, 4 to itself by two LETTERS, 5 to 6 and 7
            int set = x.graph(4, 10, new int[][] {{0, 0, 1}, {1, 1, 2}, {2, 0, 1}, {2, 0, 3}, {4, 2, 4}, {4, 3, 4}, {5, 0, 6}, {5, 0, 7}, {5, 1, 7}});
            int[] want = {4, 10, 9, 3, 4, 2};
            for (int what = 0; what < 6; what++) {
                due("about " + what, x.about(set, what), want[what]);
            }
        });
        holds("Of a SET: 0 LETTERS, 1 STATES, 2 WAYS, 3 LIVE STATES, 4 LIVE WAYS, 5 PARTS", "nothing; all that a SET BY WORDS may have", () -> {
            Counted x = new Counted();
            x.set(2, 1);
            x.spell(3, 3, 3);
            x.forbid();
            x.byWords(4);
            int[][] want = {{2, 1, 0, 0, 0, 0}, {4, 16, 63, 16, 63, 1}};
            for (int what = 0; what < 6; what++) {
                due("about(0, " + what + ")", x.about(0, what), want[0][what]);
                due("about(1, " + what + ")", x.about(1, what), want[1][what]);
            }
        });
        holds("BAD", "no such SET", () -> {
            Counted x = new Counted();
            refused(x, BAD, "about(0, 0), no SETS", () -> x.about(0, 0));
            x.set(2, 1);
            x.set(2, 1);
            for (int odd : outside(0, 1)) {
                for (int what = 0; what < 6; what++) {
                    due("about(" + odd + ", " + what + ")", x.about(odd, what), BAD);
                }
            }
        });
        holds("Of a SET: 0 LETTERS, 1 STATES, 2 WAYS, 3 LIVE STATES, 4 LIVE WAYS, 5 PARTS", "nothing changes", () -> {
            Counted x = Counted.filled();
            int[] want = {2, 2, 3, 2, 3, 1};
            for (int i = 0; i < 6; i++) {
                int what = i;
                asked(x, want[i], "about(0, " + i + ")", () -> x.about(0, what));
            }
        });
        byTurns("Of a SET: 0 LETTERS, 1 STATES, 2 WAYS, 3 LIVE STATES, 4 LIVE WAYS, 5 PARTS", "about 4 and 5",
            (x, set) -> 10 * x.about(set, 4) + x.about(set, 5), 31, 41, 32);
        holds("BAD", "nothing to tell: below 0, above 5", () -> {
            Counted x = new Counted();
            x.golden();
            for (int odd : outside(0, 5)) {
                refused(x, BAD, "about(0, " + odd + ")", () -> x.about(0, odd));
            }
        });
    }

    private static void live() {
        promise(12);
        holds("Whether a STATE is LIVE: 1, 0", "the first and the last of sixteen", () -> {
            Counted x = new Counted();
            x.graph(2, 16, new int[] {0, 0, 15}, new int[] {15, 1, 0}, new int[] {15, 1, 14}, new int[] {1, 0, 0});
            for (int s = 0; s < 16; s++) {
                due("live(0, " + s + ")", x.live(0, s), s == 0 || s == 15 ? 1 : 0);
            }
            x.unway(0, 15, 1, 0);
            due("no more", x.live(0, 0) + x.live(0, 15), 0);
        });
        holds("Whether a STATE is LIVE: 1, 0", "nothing changes", () -> {
            Counted x = Counted.filled();
            int set = x.graph(2, 2, new int[] {0, 0, 0});
            asked(x, 1, "live(0, 1)", () -> x.live(0, 1));
            asked(x, 0, "live(2, 1)", () -> x.live(set, 1));
        });
        holds("Whether a STATE is LIVE: 1, 0", "of SETS by turns, and as their WAYS are then", () -> {
            Counted x = new Counted();
            int first = x.graph(2, 2, new int[] {0, 0, 0}, new int[] {0, 1, 1});
            int second = x.graph(2, 2, new int[] {0, 0, 1}, new int[] {1, 1, 0});
            for (int i = 0; i < 2; i++) {
                due("live(0, 1)", x.live(first, 1), 0);
                due("live(1, 1)", x.live(second, 1), 1);
            }
            x.unway(second, 1, 1, 0);
            due("live(1, 1), a WAY less", x.live(second, 1), 0);
            x.way(second, 1, 0, 0);
            due("live(1, 1), a WAY more", x.live(second, 1), 1);
        });
        badSetsAndStates("live", Counted::live);
    }

    private interface OfState {
        int answer(Counted x, int set, int state);
    }

    /** SETS 0 and 1 have five STATES and sixteen, all LIVE. */
    private static void badSetsAndStates(String name, OfState call) {
        holds("BAD", "no such SET", () -> {
            Counted x = new Counted();
            refused(x, BAD, name + ", no SETS", () -> call.answer(x, 0, 0));
            liveRing(x, 5);
            liveRing(x, 16);
            for (int odd : outside(0, 1)) {
                refused(x, BAD, name + " of SET " + odd, () -> call.answer(x, odd, 0));
            }
        });
        holds("BAD", "no such STATE, of few and of sixteen", () -> {
            Counted x = new Counted();
            liveRing(x, 5);
            liveRing(x, 16);
            for (int odd : outside(0, 4)) {
                refused(x, BAD, name + " of STATE " + odd + " of 5", () -> call.answer(x, 0, odd));
            }
            for (int odd : outside(0, 15)) {
                refused(x, BAD, name + " of STATE " + odd + " of 16", () -> call.answer(x, 1, odd));
            }
            refused(x, BAD, name + " of STATE 15 of 5", () -> call.answer(x, 0, 15));
        });
        holds("BAD", "no such STATE of a SET where nothing is LIVE", () -> {
            Counted x = new Counted();
            x.set(2, 3);
            refused(x, BAD, name + " of STATE 3", () -> call.answer(x, 0, 3));
            refused(x, BAD, name + " of STATE -1", () -> call.answer(x, 0, -1));
        });
    }

    private static int liveRing(Counted x, int states) {
        int set = x.set(2, states);
        for (int s = 0; s < states; s++) {
            x.way(set, s, 0, (s + 1) % states);
        }
        return set;
    }

    /** Of golden, of all WORDS, and of those with one 1 at most; then with a WAY more, and a WAY less. */
    private static void byTurns(String words, String name, java.util.function.ToLongBiFunction<Counted, Integer> ask,
        long ofGolden, long ofAll, long ofSeldom) {
        holds(words, "of SETS by turns, and as their WAYS are then", () -> {
            Counted x = new Counted();
            int golden = x.golden();
            int all = x.byForbidding(2);
            int seldom = x.graph(2, 2, new int[] {0, 0, 0}, new int[] {1, 1, 0}, new int[] {1, 0, 1});
            due("golden, to be asked with", x.golden(), 3);
            x.spell(1, 1);
            x.tells(1, 1);
            for (int i = 0; i < 2; i++) {
                due(name + " of golden", ask.applyAsLong(x, golden), ofGolden);
                due(name + " of all", ask.applyAsLong(x, all), ofAll);
                due(name + " of one 1 at most", ask.applyAsLong(x, seldom), ofSeldom);
            }
            x.unway(seldom, 1, 1, 0);
            x.way(seldom, 0, 1, 1);
            x.unway(seldom, 1, 0, 1);
            x.way(seldom, 1, 0, 0);
            due(name + " of golden by hand", ask.applyAsLong(x, seldom), ofGolden);
            x.way(seldom, 1, 1, 1);
            due(name + ", a WAY more", ask.applyAsLong(x, seldom), ofAll);
            x.unway(seldom, 1, 1, 1);
            due(name + ", a WAY less", ask.applyAsLong(x, seldom), ofGolden);
            due(name + " of the others, as ever", ask.applyAsLong(x, all), ofAll);
        });
    }

    private static void badSets(String name, java.util.function.ToLongBiFunction<Counted, Integer> call) {
        holds("BAD", "no such SET", () -> {
            Counted x = new Counted();
            refused(x, BAD, name + ", no SETS", () -> call.applyAsLong(x, 0));
            liveRing(x, 5);
            liveRing(x, 16);
            for (int odd : outside(0, 1)) {
                refused(x, BAD, name + " of SET " + odd, () -> call.applyAsLong(x, odd));
            }
            while (x.count(0) < 6) {
                x.all(2);
            }
            refused(x, BAD, name + " of SET 6 of 6", () -> call.applyAsLong(x, 6));
        });
    }

    private static void may() {
        promise(13);
        holds("Whether THE WORD MAY STAND: 1, 0 (also with a LETTER that the SET has not)", "none, one and 30 LETTERS", () -> {
            Counted x = new Counted();
            int golden = x.golden();
            due("none", x.may(golden), 1);
            x.letter(1);
            due("one", x.may(golden), 1);
            for (int i = 1; i < 30; i++) {
                x.letter(1 - i % 2);
            }
            due("thirty", x.may(golden), 1);
            x.empty();
            for (int i = 0; i < 30; i++) {
                x.letter(i < 28 ? 0 : 1);
            }
            due("thirty, the last two 1", x.may(golden), 0);
        });
        holds("Whether THE WORD MAY STAND: 1, 0 (also with a LETTER that the SET has not)", "2 and 3 in a SET of 2, 3 in one of 3, none in one of 4", () -> {
            for (int l = 0; l < 4; l++) {
                for (int[] word : new int[][] {{l}, {l, 0}, {0, l}, {0, l, 0}}) {
                    Counted x = new Counted();
                    x.spell(word);
                    for (int k = 2; k <= 4; k++) {
                        due(l + " of " + k, x.may(x.all(k)), l < k ? 1 : 0);
                    }
                }
            }
        });
        holds("Whether THE WORD MAY STAND: 1, 0 (also with a LETTER that the SET has not)", "nothing LIVE", () -> {
            Counted x = new Counted();
            x.graph(2, 2, new int[] {0, 0, 1});
            due("the empty WORD", x.may(0), 0);
            x.letter(0);
            due("one LETTER", x.may(0), 0);
            x.letter(3);
            due("with one that it has not", x.may(0), 0);
        });
        holds("Whether THE WORD MAY STAND: 1, 0 (also with a LETTER that the SET has not)", "nothing changes", () -> {
            Counted x = Counted.filled();
            asked(x, 1, "may(0)", () -> x.may(0));
            x.letter(2);
            asked(x, 0, "may(0)", () -> x.may(0));
        });
        byTurns("Whether THE WORD MAY STAND: 1, 0 (also with a LETTER that the SET has not)", "11 may", (x, set) -> x.may(set), 0, 1, 0);
        badSets("may", (x, set) -> x.may(set));
    }

    // ---- promises 14, 15, 16, 17

    private static void badNumbers(String name, int least, int most, java.util.function.ToLongBiFunction<Counted, Integer> call) {
        holds("BAD", "less than " + least + ", more than " + most, () -> {
            Counted x = new Counted();
            x.golden();
            for (int odd : outside(least, most)) {
                refused(x, BAD, name + " with " + odd, () -> call.applyAsLong(x, odd));
            }
            due("the least is told", call.applyAsLong(x, least) >= 0 ? 1 : 0, 1);
            due("the most is told", call.applyAsLong(x, most) >= 0 ? 1 : 0, 1);
        });
    }

    private static void howMany() {
        promise(14);
        holds("HOW MANY", "0, 1 and 24 LETTERS; nothing LIVE", () -> {
            Counted x = new Counted();
            int golden = x.golden();
            due("0", x.howMany(golden, 0), 1);
            due("1", x.howMany(golden, 1), 2);
            due("24", x.howMany(golden, 24), 121393);
            due("of four", x.howMany(x.all(4), 24), 281474976710656L);
            int none = x.set(4, 16);
            due("nothing LIVE, 0", x.howMany(none, 0), 0);
            due("nothing LIVE, 24", x.howMany(none, 24), 0);
        });
        holds("HOW MANY", "nothing changes", () -> {
            Counted x = Counted.filled();
            asked(x, 13, "howMany(0, 5)", () -> x.howMany(0, 5));
        });
        byTurns("HOW MANY", "howMany 10", (x, set) -> x.howMany(set, 10), 144, 1024, 11);
        badSets("howMany", (x, set) -> x.howMany(set, 3));
        badNumbers("howMany", 0, 24, (x, n) -> x.howMany(0, n));
    }

    private static void loops() {
        promise(15);
        holds("LOOPS", "1 and 10 WAYS; nothing LIVE; none so long", () -> {
            Counted x = new Counted();
            int golden = x.golden();
            due("1", x.loops(golden, 1), 1);
            due("10", x.loops(golden, 10), 123);
            due("of four", x.loops(x.all(4), 10), 1 << 20);
            due("nothing LIVE", x.loops(x.set(2, 16), 10), 0);
            int ring = liveRing(x, 10);
            due("9 of a ring of 10", x.loops(ring, 9), 0);
            due("10 of a ring of 10", x.loops(ring, 10), 10);
        });
        holds("LOOPS", "nothing changes", () -> {
            Counted x = Counted.filled();
            asked(x, 7, "loops(0, 4)", () -> x.loops(0, 4));
        });
        byTurns("LOOPS", "loops 10", (x, set) -> x.loops(set, 10), 123, 1024, 2);
        badSets("loops", (x, set) -> x.loops(set, 3));
        badNumbers("loops", 1, 10, (x, n) -> x.loops(0, n));
    }

    private static void rounds() {
        promise(16);
        holds("ROUNDS", "1 and 7 LETTERS; nothing LIVE; none so long", () -> {
            Counted x = new Counted();
            int golden = x.golden();
            due("1", x.rounds(golden, 1), 1);
            due("7", x.rounds(golden, 7), 29);
            due("of four", x.rounds(x.all(4), 7), 1 << 14);
            due("nothing LIVE", x.rounds(x.set(4, 16), 7), 0);
            int seven = x.set(2, 7);
            for (int s = 0; s < 7; s++) {
                x.way(seven, s, s == 0 ? 1 : 0, (s + 1) % 7);
            }
            due("6 of 1000000", x.rounds(seven, 6), 0);
            due("7 of 1000000", x.rounds(seven, 7), 7);
        });
        holds("ROUNDS", "nothing changes", () -> {
            Counted x = Counted.filled();
            asked(x, 7, "rounds(0, 4)", () -> x.rounds(0, 4));
        });
        byTurns("ROUNDS", "rounds 7", (x, set) -> x.rounds(set, 7), 29, 128, 1);
        badSets("rounds", (x, set) -> x.rounds(set, 3));
        badNumbers("rounds", 1, 7, (x, n) -> x.rounds(0, n));
    }

    private static void growth() {
        promise(17);
        holds("GROWTH: what = 0, 1 the least above, below, 2, 3 the greatest", "by 0 and by 9", () -> {
            Counted x = new Counted();
            int golden = x.golden();
            long[][] want = {{1, 1, 2, 1}, {144, 89, 89, 55}};
            for (int what = 0; what < 4; what++) {
                due("by 0, " + what, x.growth(golden, 0, what), want[0][what]);
                due("by 9, " + what, x.growth(golden, 9, what), want[1][what]);
            }
        });
        holds("GROWTH: what = 0, 1 the least above, below, 2, 3 the greatest", "one STATE: the least is the greatest", () -> {
            Counted x = new Counted();
            int four = x.all(4);
            for (int t = 0; t <= 9; t++) {
                for (int what = 0; what < 4; what++) {
                    due("by " + t + ", " + what, x.growth(four, t, what), what % 2 == 0 ? 4 : 1);
                }
            }
        });
        holds("GROWTH: what = 0, 1 the least above, below, 2, 3 the greatest", "nothing changes", () -> {
            Counted x = Counted.filled();
            long[] want = {8, 5, 5, 3};
            for (int i = 0; i < 4; i++) {
                int what = i;
                asked(x, want[i], "growth(0, 3, " + i + ")", () -> x.growth(0, 3, what));
            }
        });
        byTurns("GROWTH: what = 0, 1 the least above, below, 2, 3 the greatest", "the greatest, below, by 3", (x, set) -> x.growth(set, 3, 3), 3, 1, 4);
        badSets("growth", (x, set) -> x.growth(set, 3, 0));
        badNumbers("growth by t", 0, 9, (x, t) -> x.growth(0, t, 0));
        badNumbers("growth, what", 0, 3, (x, what) -> x.growth(0, 3, what));
        holds("NO: nothing is LIVE", "no WAYS; WAYS that lead to an end", () -> {
            Counted x = new Counted();
            int none = x.set(4, 16);
            int chain = x.graph(2, 2, new int[] {0, 0, 1});
            for (int t = 0; t <= 9; t += 9) {
                for (int what = 0; what < 4; what++) {
                    int by = t;
                    int told = what;
                    refused(x, NO, "no WAYS, by " + t + ", " + what, () -> x.growth(none, by, told));
                    refused(x, NO, "a chain, by " + t + ", " + what, () -> x.growth(chain, by, told));
                }
            }
            x.way(chain, 1, 1, 0);
            due("LIVE then", x.growth(chain, 0, 0), 1);
        });
    }

    // ---- promise 18

    private static void same() {
        promise(18);
        holds("Whether two SETS are THE SAME: 1", "THE WORD stays then", () -> {
            Counted x = new Counted();
            int golden = x.golden();
            int again = x.byWords(2);
            x.spell(1, 1, 2);
            long before = x.digest();
            due("same", x.same(golden, again), 1);
            due("same with itself", x.same(golden, golden), 1);
            due("digest", x.digest(), before);
        });
        holds("Whether two SETS are THE SAME: 1", "11 MAY STAND in neither, then in one, then in both", () -> {
            Counted x = new Counted();
            x.golden();
            x.byWords(2);
            for (int i = 0; i < 2; i++) {
                due("in neither", x.same(0, 1), 1);
                x.way(1, 1, 1, 1);
                due("in one", x.same(0, 1), 0);
                x.way(0, 1, 1, 1);
                due("in both", x.same(0, 1), 1);
                x.unway(1, 1, 1, 1);
                due("in the other", x.same(0, 1), 0);
                x.unway(0, 1, 1, 1);
            }
        });
        byTurns("Whether two SETS are THE SAME: 1", "same as golden", (x, set) -> x.same(set, 3), 1, 0, 0);
        wordThatParts();
        badSets("same, the first", (x, set) -> x.same(set, 0));
        badSets("same, the other", (x, set) -> x.same(0, set));
        holds("NO: unlike many LETTERS", "2 and 3, 3 and 4, 2 and 4, though nothing is LIVE", () -> {
            Counted x = new Counted();
            for (int k = 2; k <= 4; k++) {
                x.set(k, 1);
            }
            x.spell(1, 2);
            for (int i = 0; i < 9; i++) {
                int one = i / 3;
                int other = i % 3;
                if (one != other) {
                    refused(x, NO, "same(" + one + ", " + other + ")", () -> x.same(one, other));
                } else {
                    due("same(" + one + ", " + one + ")", x.same(one, one), 1);
                }
            }
        });
        holds("SPENT", "THE WORD stays then; later calls answer as ever", () -> {
            Counted x = new Counted();
            int ring = x.losingRing(15);
            int all = x.all(2);
            x.spell(2, 3);
            refused(x, SPENT, "32767 sets with themselves", () -> x.same(ring, ring));
            refused(x, SPENT, "fifteen 1 would part", () -> x.same(ring, all));
            refused(x, SPENT, "the other way round", () -> x.same(all, ring));
            due("howMany", x.howMany(ring, 15), (1 << 15) - 1);
            due("same", x.same(all, all), 1);
            int less = x.losingRing(14);
            due("fourteen 1 part", x.same(less, all), 0);
            Sentences.due("THE WORD", x.word(), "1".repeat(14));
        });
    }

    private static void wordThatParts() {
        String words = "0: THE WORD is that which PARTS them then (its first 30 LETTERS)";
        holds(words, "none, one and two LETTERS, whatever THE WORD was", () -> {
            Counted x = new Counted();
            int none = x.set(2, 1);
            int nought = x.only(2, 1);
            int all = x.all(2);
            int golden = x.golden();
            x.spell(3, 3, 3);
            due("same", x.same(none, all), 0);
            Sentences.due("THE WORD", x.word(), "");
            x.spell(3, 3, 3);
            due("same", x.same(nought, all), 0);
            Sentences.due("THE WORD", x.word(), "1");
            due("what was behind is gone", x.letterAt(1), NONE);
            due("same", x.same(golden, all), 0);
            Sentences.due("THE WORD", x.word(), "11");
            due("it MAY STAND in one alone", x.may(all) * 2 + x.may(golden), 2);
            due("a LETTER comes behind it", x.letter(0), 3);
        });
        holds(words, "all else stays", () -> {
            Counted x = Counted.filled();
            Held h = Held.filled();
            due("same", x.same(0, x.all(2)), 0);
            h.sets.add(new int[] {2, 1, 2, 1, 2, 1, 1});
            h.word = new int[] {1, 1};
            holdsJust(x, h);
        });
        holds(words, "29 and 30 LETTERS: all of them", () -> {
            for (int n = 27; n <= 28; n++) {
                Counted x = new Counted();
                int rings = x.rings(n);
                int all = x.all(2);
                due("same", x.same(rings, all), 0);
                Sentences.due("THE WORD", x.word(), "1" + "0".repeat(n) + "1");
                due("it MAY STAND in one alone", x.may(all) * 2 + x.may(rings), 2);
            }
        });
        holds(words, "31 LETTERS: all but the last", () -> {
            Counted x = new Counted();
            int rings = x.rings(29);
            int all = x.all(2);
            due("same", x.same(all, rings), 0);
            Sentences.due("THE WORD", x.word(), "1" + "0".repeat(29));
            due("so far it MAY STAND in both", x.may(all) * 2 + x.may(rings), 3);
            due("FULL then", x.letter(1), FULL);
        });
        holds(words, "64 LETTERS, with rings of 7 and 9: thirty of them", () -> {
            Counted x = new Counted();
            int all = x.all(2);
            int rings = x.set(2, 16);
            for (int s = 0; s < 16; s++) {
                x.way(rings, s, 0, s == 6 ? 0 : s == 15 ? 7 : s + 1);
                if (s != 6 && s != 15) {
                    x.way(rings, s, 1, 0);
                    x.way(rings, s, 1, 7);
                }
            }
            due("same", x.same(rings, all), 0);
            Sentences.due("THE WORD", x.word(), "1" + "0".repeat(29));
        });
    }

    // ---- promises 19, 20

    /** 1 4 7 10 in a ring, 3 alone between, 2 5 8 in a ring, 15 by itself; the others lead to them or from them. */
    private static final int[][] RINGS = {{1, 0, 4}, {4, 0, 7}, {7, 0, 10}, {10, 0, 1}, {10, 0, 3}, {3, 0, 2}, {2, 0, 5}, {5, 0, 8}, {8, 0, 2},
        {15, 0, 15}, {0, 0, 1}, {8, 0, 9}, {11, 0, 12}};

    private static void part() {
        promise(19);
        holds("The PART of a STATE", "the least of its own, not of all that it leads to", () -> {
            Counted x = new Counted();
            x.graph(2, 16, RINGS);
            int[] want = {NONE, 1, 2, 3, 1, 2, NONE, 1, 2, NONE, 1, NONE, NONE, NONE, NONE, 15};
            for (int s = 0; s < 16; s++) {
                due("part(0, " + s + ")", x.part(0, s), want[s]);
            }
            x.way(0, 2, 1, 1);
            for (int s : new int[] {1, 2, 3, 4, 5, 7, 8, 10}) {
                due("one PART", x.part(0, s), 1);
            }
            due("0 is told as 0", x.part(x.all(2), 0), 0);
        });
        holds("NONE: not LIVE", "led to, leading, neither", () -> {
            Counted x = new Counted();
            x.graph(2, 16, RINGS);
            for (int s : new int[] {0, 6, 9, 11, 12, 13, 14}) {
                int state = s;
                refused(x, NONE, "part(0, " + s + ")", () -> x.part(0, state));
            }
        });
        holds("The PART of a STATE", "nothing changes", () -> {
            Counted x = Counted.filled();
            asked(x, 0, "part(0, 1)", () -> x.part(0, 1));
        });
        byTurns("The PART of a STATE", "part of STATE 1", (x, set) -> x.part(set, 1), 0, 0, 1);
        badSetsAndStates("part", Counted::part);
    }

    private static void pace() {
        promise(20);
        holds("THE PACE of a STATE's PART", "0, 1 and 16", () -> {
            Counted x = new Counted();
            x.graph(2, 16, RINGS);
            int[] want = {NONE, 4, 3, 0, 4, 3, NONE, 4, 3, NONE, 4, NONE, NONE, NONE, NONE, 1};
            for (int s = 0; s < 16; s++) {
                due("pace(0, " + s + ")", x.pace(0, s), want[s]);
            }
            int ring = liveRing(x, 16);
            due("sixteen", x.pace(ring, 15), 16);
            x.way(ring, 3, 1, 5);
            due("sixteen and fifteen", x.pace(ring, 15), 1);
        });
        holds("THE PACE of a STATE's PART", "three layers of five, and a WAY back by one", () -> {
            Counted x = new Counted();
            x.set(2, 15);
            for (int s = 0; s < 15; s++) {
                int next = (s / 5 + 1) % 3 * 5;
                x.way(0, s, 0, next + s * 2 % 5);
                x.way(0, s, 0, next + (s + 3) % 5);
            }
            for (int s = 0; s < 15; s++) {
                due("pace(0, " + s + ")", x.pace(0, s), 3);
            }
            x.way(0, 14, 1, 7);
            due("pace(0, 0)", x.pace(0, 0), 1);
        });
        holds("NONE: not LIVE", "led to, leading, neither", () -> {
            Counted x = new Counted();
            x.graph(2, 16, RINGS);
            for (int s : new int[] {0, 6, 9, 11, 12, 13, 14}) {
                int state = s;
                refused(x, NONE, "pace(0, " + s + ")", () -> x.pace(0, state));
            }
        });
        holds("THE PACE of a STATE's PART", "nothing changes", () -> {
            Counted x = Counted.filled();
            asked(x, 1, "pace(0, 1)", () -> x.pace(0, 1));
        });
        holds("THE PACE of a STATE's PART", "of SETS by turns, and as their WAYS are then", () -> {
            Counted x = new Counted();
            int four = liveRing(x, 4);
            int six = x.graph(2, 6, new int[] {1, 0, 2}, new int[] {2, 0, 3}, new int[] {3, 0, 1}, new int[] {0, 1, 0});
            for (int i = 0; i < 2; i++) {
                due("a ring of 4", x.pace(four, 1), 4);
                due("a ring of 3, as many WAYS", x.pace(six, 1), 3);
            }
            x.way(four, 3, 1, 2);
            due("a ring of 2 in that of 4", x.pace(four, 1), 2);
            x.unway(four, 3, 1, 2);
            due("a ring of 4 again", x.pace(four, 1), 4);
        });
        badSetsAndStates("pace", Counted::pace);
    }

    // ---- promises 21, 22, 23

    private static void window() {
        promise(21);
        holds("A WINDOW of w, all 0: 1", "of each w, whatever was told before", () -> {
            Counted x = new Counted();
            for (int w : new int[] {3, 1, 2, 3, 3, 2, 1}) {
                due("window(" + w + ")", x.window(w), 1);
                due("count(3)", x.count(3), w);
                int last = (1 << 2 * w) - 1;
                due("the first row", x.tells(0, 3), 0);
                due("the last row", x.tells(last, 3), 0);
                due("a row amid", x.tells(last / 2, 3), 0);
            }
            x.window(3);
            for (int row = 0; row < 64; row++) {
                due("row " + row, x.tells(row, 1), 0);
            }
        });
        holds("A WINDOW of w, all 0: 1", "all else stays", () -> {
            Counted x = Counted.filled();
            Held h = Held.filled();
            due("window(3)", x.window(3), 1);
            h.window(3);
            holdsJust(x, h);
            x.tells(0, 3);
            due("window(1)", x.window(1), 1);
            h.window(1);
            holdsJust(x, h);
        });
        holds("BAD", "less than 1, more than 3: what was told stays", () -> {
            Counted x = new Counted();
            x.window(2);
            x.tells(15, 2);
            for (int odd : outside(1, 3)) {
                refused(x, BAD, "window(" + odd + ")", () -> x.window(odd));
            }
            due("count(3)", x.count(3), 2);
            due("what it tells", x.tells(15, 0), 2);
        });
    }

    private static void tells() {
        promise(22);
        String words = "What it tells for a row (as a number to the base 4, whatever SET it is for): what it was";
        holds(words, "each row of each w, 0 to 3", () -> {
            Counted x = new Counted();
            for (int w = 1; w <= 3; w++) {
                x.window(w);
                int rows = 1 << 2 * w;
                for (int row = 0; row < rows; row++) {
                    due("0 at first", x.tells(row, (row * 5 + w) % 4), 0);
                }
                for (int row = 0; row < rows; row++) {
                    due("what it was", x.tells(row, 3), (row * 5 + w) % 4);
                }
            }
        });
        holds(words, "all else stays", () -> {
            Counted x = Counted.filled();
            Held h = Held.filled();
            due("tells(5, 3)", x.tells(5, 3), 1);
            due("tells(15, 2)", x.tells(15, 2), 0);
            h.told[5] = 3;
            h.told[15] = 2;
            holdsJust(x, h);
        });
        holds(words, "rows that no SET has, and LETTERS that none has", () -> {
            Counted x = new Counted();
            x.all(2);
            x.window(3);
            due("row 333", x.tells(63, 3), 0);
            due("row 333", x.tells(63, 2), 3);
            due("it does no harm", x.maps(0, 0), 1);
        });
        holds("BAD", "no such row: below 0, 4 to the w-th", () -> {
            Counted x = new Counted();
            for (int w = 1; w <= 3; w++) {
                x.window(w);
                for (int odd : outside(0, (1 << 2 * w) - 1)) {
                    refused(x, BAD, "tells(" + odd + ", 1)", () -> x.tells(odd, 1));
                }
            }
            x.window(1);
            refused(x, BAD, "row 63 of one LETTER", () -> x.tells(63, 1));
        });
        holds("BAD", "no LETTER: below 0, above 3", () -> {
            Counted x = new Counted();
            x.tells(0, 2);
            for (int odd : outside(0, 3)) {
                refused(x, BAD, "tells(0, " + odd + ")", () -> x.tells(0, odd));
            }
            due("what it was", x.tells(0, 0), 2);
        });
    }

    private static void maps() {
        promise(23);
        holds("Whether it MAPS a SET into another one: 1, 0", "each LETTER to itself; 0 and 1 turned over", () -> {
            Counted x = new Counted();
            int all = x.all(2);
            int golden = x.golden();
            x.tells(1, 1);
            due("golden into all", x.maps(golden, all), 1);
            due("all into golden", x.maps(all, golden), 0);
            due("golden into itself", x.maps(golden, golden), 1);
            x.tells(0, 1);
            x.tells(1, 0);
            due("golden into itself", x.maps(golden, golden), 0);
            due("all into itself", x.maps(all, all), 1);
        });
        holds("Whether it MAPS a SET into another one: 1, 0", "nothing changes, THE WORD neither", () -> {
            Counted x = new Counted();
            int all = x.all(2);
            int golden = x.golden();
            x.spell(1, 0, 1);
            x.tells(1, 1);
            long before = x.digest();
            due("maps", x.maps(all, golden), 0);
            due("maps", x.maps(golden, all), 1);
            due("digest", x.digest(), before);
        });
        holds("Whether it MAPS a SET into another one: 1, 0", "it fails late: at the fourteenth LETTER, at the last row of three", () -> {
            Counted x = new Counted();
            int all = x.all(2);
            x.tells(1, 1);
            due("fourteen 1", x.maps(all, x.losingRing(14)), 0);
            int four = x.all(4);
            int nought = x.only(2, 1);
            x.window(3);
            due("all to 0", x.maps(four, nought), 1);
            x.tells(63, 1);
            due("333 to 1", x.maps(four, nought), 0);
            x.tells(63, 3);
            due("333 to 3", x.maps(four, all), 0);
            due("333 to 3", x.maps(four, four), 1);
        });
        holds("Whether it MAPS a SET into another one: 1, 0", "nothing changes, whatever it answers", () -> {
            Counted x = Counted.filled();
            asked(x, 1, "maps(0, 1)", () -> x.maps(0, 1));
            asked(x, 0, "maps(1, 0)", () -> x.maps(1, 0));
        });
        byTurns("Whether it MAPS a SET into another one: 1, 0", "into golden", (x, set) -> x.maps(set, 3), 1, 0, 1);
        byTurns("Whether it MAPS a SET into another one: 1, 0", "golden into it", (x, set) -> x.maps(3, set), 1, 1, 0);
        badSets("maps, from", (x, set) -> x.maps(set, 0));
        badSets("maps, into", (x, set) -> x.maps(0, set));
        holds("SPENT", "more than 20000 sets, nothing fails; later calls answer as ever", () -> {
            Counted x = new Counted();
            int ring = x.losingRing(15);
            int all = x.all(2);
            int golden = x.golden();
            x.tells(1, 1);
            // with it there are two WAYS by 1 to STATE 13, but no STATE without: no row loses all
            x.way(ring, 14, 1, 13);
            due("1 without end", x.maps(x.graph(2, 1, new int[] {0, 1, 0}), ring), 1);
            refused(x, SPENT, "maps", () -> x.maps(all, ring));
            due("maps", x.maps(golden, golden), 1);
            due("same", x.same(golden, all), 0);
        });
    }

    // ---- promises 24, 25

    private interface OfCoder {
        int answer(Counted x, int set, int p, int q, int most);
    }

    private static void badCoders(String name, OfCoder call) {
        badSets(name, (x, set) -> call.answer(x, set, 1, 1, 1));
        badNumbers(name + ", p", 1, 8, (x, p) -> call.answer(x, 0, p, 1, 1));
        badNumbers(name + ", q", 1, 4, (x, q) -> call.answer(x, 0, 1, q, 1));
        badNumbers(name + ", at most", 1, 100, (x, most) -> call.answer(x, 0, 1, 1, most));
    }

    private static void weights() {
        promise(24);
        holds("THE WEIGHTS' sum (0: there are none such)", "1 and 100 at most", () -> {
            Counted x = new Counted();
            int golden = x.golden();
            due("2 in 3, 100 at most", x.weights(golden, 2, 3, 100), 166);
            due("2 in 3, 10 at most", x.weights(golden, 2, 3, 10), 16);
            due("1 in 2, 1 at most", x.weights(golden, 1, 2, 1), 2);
            due("sixteen STATES", x.weights(x.byForbidding(4, new int[] {0, 0, 0}), 1, 1, 100), 1600);
        });
        holds("THE WEIGHTS' sum (0: there are none such)", "none such", () -> {
            Counted x = new Counted();
            int golden = x.golden();
            due("2 in 3, 1 at most", x.weights(golden, 2, 3, 1), 0);
            due("3 in 4", x.weights(golden, 3, 4, 100), 0);
            due("1 in 1", x.weights(golden, 1, 1, 100), 0);
            due("8 in 4 of three LETTERS", x.weights(x.all(3), 8, 4, 100), 0);
            due("8 in 4 of four LETTERS", x.weights(x.all(4), 8, 4, 100), 100);
        });
        holds("THE WEIGHTS' sum (0: there are none such)", "nothing LIVE", () -> {
            Counted x = new Counted();
            due("no WAYS", x.weights(x.set(4, 16), 1, 1, 100), 0);
            due("a chain", x.weights(x.graph(2, 2, new int[] {0, 0, 1}), 1, 4, 100), 0);
        });
        holds("THE WEIGHTS' sum (0: there are none such)", "nothing changes", () -> {
            Counted x = Counted.filled();
            asked(x, 16, "weights(0, 2, 3, 10)", () -> x.weights(0, 2, 3, 10));
        });
        byTurns("THE WEIGHTS' sum (0: there are none such)", "2 in 3, 10 at most", (x, set) -> x.weights(set, 2, 3, 10), 16, 20, 0);
        badCoders("weights", Counted::weights);
    }

    private static void weight() {
        promise(25);
        holds("A STATE's of THE WEIGHTS (0: not LIVE)", "they sum up; they may be unlike", () -> {
            Counted x = new Counted();
            int golden = x.golden();
            due("of 0", x.weight(golden, 2, 3, 10, 0), 10);
            due("of 1", x.weight(golden, 2, 3, 10, 1), 6);
            due("of 0", x.weight(golden, 2, 3, 1, 0), 0);
            int set = x.byForbidding(2, new int[] {1, 0, 1, 1}, new int[] {0, 0, 0, 0, 0});
            int sum = 0;
            for (int s = 0; s < 16; s++) {
                sum += x.weight(set, 3, 4, 100, s);
            }
            due("sum", sum, x.weights(set, 3, 4, 100));
            due("some", sum > 0 ? 1 : 0, 1);
        });
        holds("A STATE's of THE WEIGHTS (0: not LIVE)", "led to, leading, neither; nothing LIVE", () -> {
            Counted x = new Counted();
            int set = x.graph(2, 4, new int[] {0, 0, 0}, new int[] {0, 1, 0}, new int[] {0, 1, 1}, new int[] {2, 0, 0}, new int[] {2, 1, 0});
            due("LIVE", x.weight(set, 1, 1, 9, 0), 9);
            for (int s = 1; s < 4; s++) {
                due("not LIVE", x.weight(set, 1, 1, 9, s), 0);
            }
            due("nothing LIVE", x.weight(x.set(4, 16), 1, 1, 1, 15), 0);
        });
        holds("A STATE's of THE WEIGHTS (0: not LIVE)", "nothing changes", () -> {
            Counted x = Counted.filled();
            asked(x, 6, "weight(0, 2, 3, 10, 1)", () -> x.weight(0, 2, 3, 10, 1));
        });
        byTurns("A STATE's of THE WEIGHTS (0: not LIVE)", "of STATE 1, 2 in 3, 10 at most", (x, set) -> x.weight(set, 2, 3, 10, 1), 6, 10, 0);
        badCoders("weight", (x, set, p, q, most) -> x.weight(set, p, q, most, 0));
        badSetsAndStates("weight", (x, set, state) -> x.weight(set, 1, 1, 1, state));
    }

    // ---- promise 26

    private static void count() {
        promise(26);
        holds("How many: 0 SETS, 1 LETTERS of THE WORD, 2 WORDS to be FORBIDDEN, 3 w", "none, some, full", () -> {
            Counted x = new Counted();
            countsAre(x, 0, 0, 0, 1);
            x.set(2, 2);
            x.byWords(3);
            x.spell(1, 2, 0);
            for (int i = 0; i < 4; i++) {
                x.forbid();
            }
            x.window(3);
            countsAre(x, 2, 3, 4, 3);
            while (x.set(4, 16) >= 0) {
                due("one more", x.count(0) <= 6 ? 1 : 0, 1);
            }
            while (x.forbid() >= 0) {
                due("one more", x.count(2) <= 8 ? 1 : 0, 1);
            }
            while (x.letter(3) >= 0) {
                due("one more", x.count(1) <= 30 ? 1 : 0, 1);
            }
            x.window(2);
            countsAre(x, 6, 30, 8, 2);
            x.empty();
            x.unforbid();
            countsAre(x, 6, 0, 0, 2);
        });
        countIsAsked();
        holds("BAD", "below 0, above 3", () -> {
            Counted x = new Counted();
            for (int odd : outside(0, 3)) {
                refused(x, BAD, "count(" + odd + ")", () -> x.count(odd));
            }
        });
    }

    private static void countIsAsked() {
        holds("How many: 0 SETS, 1 LETTERS of THE WORD, 2 WORDS to be FORBIDDEN, 3 w", "nothing changes", () -> {
            Counted x = Counted.filled();
            int[] want = {2, 3, 1, 2};
            for (int i = 0; i < 4; i++) {
                int what = i;
                asked(x, want[i], "count(" + i + ")", () -> x.count(what));
            }
        });
    }

    private static void countsAre(Counted x, int... want) {
        for (int what = 0; what < 4; what++) {
            due("count(" + what + ")", x.count(what), want[what]);
        }
    }

    // ---- promise 27

    /** Of an object with one SET of four LETTERS and sixteen STATES, of which just 15 may be LIVE, and 0 if it leads to 15. */
    private static long digestOfWays(int[]... ways) {
        java.util.ArrayList<Long> values = new java.util.ArrayList<>(java.util.List.of(1L, 0L, 0L, 1L, 4L, 16L));
        values.add((long) ways.length);
        values.add(ways.length == 0 ? 0L : 2L);
        values.add((long) ways.length);
        long[] bits = new long[64];
        for (int[] way : ways) {
            bits[way[0] * 4 + way[1]] += 1L << way[2];
        }
        for (long b : bits) {
            values.add(b);
        }
        for (int row = 0; row < 4; row++) {
            values.add(0L);
        }
        return digestOf(values.stream().mapToLong(v -> v).toArray());
    }

    private static void digest() {
        promise(27);
        holds("h = 193", "a new object", () -> {
            Counted x = new Counted();
            due("digest()", x.digest(), digestOf(0, 0, 0, 1, 0, 0, 0, 0));
            due("again", x.digest(), digestOf(0, 0, 0, 1, 0, 0, 0, 0));
        });
        holds("h = 193", "all together, and nothing changes by asking", () -> {
            Counted x = Counted.filled();
            long want = Held.filled().digest();
            asked(x, want, "digest()", () -> x.digest());
            due("the third", x.digest(), want);
        });
        holds("then h = 31 h + v for each v: count(0) to count(3)", "in their order, with the wrap-around of a long", () -> {
            Counted x = new Counted();
            x.spell(3, 1);
            x.forbid();
            x.spell(2);
            due("digest()", x.digest(), digestOf(0, 1, 1, 1, 2, 2, 3, 1, 0, 0, 0, 0));
            while (x.letter(3) > 0) {
                due("below 0 or above", x.digest() != 0 ? 1 : 0, 1);
            }
            long[] values = new long[4 + 30 + 3 + 4];
            java.util.Arrays.fill(values, 4, 34, 3);
            values[1] = 30;
            values[2] = 1;
            values[3] = 1;
            values[4] = 2;
            values[34] = 2;
            values[35] = 3;
            values[36] = 1;
            due("digest()", x.digest(), digestOf(values));
        });
        holds("of SETS about(.., 0) to (.., 4), of STATES, of LETTERS the bits of STATES to which WAYS lead", "two SETS, one behind the other", () -> {
            Counted x = new Counted();
            x.graph(3, 2, new int[] {0, 0, 0}, new int[] {0, 2, 1}, new int[] {0, 2, 0}, new int[] {1, 1, 1});
            x.graph(2, 3, new int[] {2, 1, 0}, new int[] {1, 0, 2});
            due("digest()", x.digest(), digestOf(2, 0, 0, 1, 3, 2, 4, 2, 4, 1, 0, 3, 0, 2, 0, 2, 3, 2, 0, 0, 0, 0, 4, 0, 0, 1, 0, 0, 0, 0));
        });
        holds("of SETS about(.., 0) to (.., 4), of STATES, of LETTERS the bits of STATES to which WAYS lead", "all sixteen bits", () -> {
            Counted x = new Counted();
            x.set(2, 16);
            for (int s = 0; s < 16; s++) {
                x.way(0, 15, 1, s);
            }
            long[] values = new long[4 + 5 + 32 + 4];
            values[0] = 1;
            values[3] = 1;
            values[4] = 2;
            values[5] = 16;
            values[6] = 16;
            values[7] = 1;
            values[8] = 1;
            values[40] = 65535;
            due("digest()", x.digest(), digestOf(values));
        });
        holds("LETTERS of THE WORD", "none, one, three; not those that were", () -> {
            Counted x = new Counted();
            x.letter(3);
            due("one", x.digest(), digestOf(0, 1, 0, 1, 3, 0, 0, 0, 0));
            x.spell(1, 0, 2);
            due("three", x.digest(), digestOf(0, 3, 0, 1, 1, 0, 2, 0, 0, 0, 0));
            x.empty();
            due("none", x.digest(), digestOf(0, 0, 0, 1, 0, 0, 0, 0));
        });
        holds("of FORBIDDEN WORDS how long, LETTERS", "in the order in which they were told; none that were", () -> {
            Counted x = new Counted();
            x.forbidJust(new int[] {1, 2, 3, 0, 1}, new int[] {3}, new int[] {3}, new int[] {0, 2});
            due("four", x.digest(), digestOf(0, 0, 4, 1, 5, 1, 2, 3, 0, 1, 1, 3, 1, 3, 2, 0, 2, 0, 0, 0, 0));
            x.unforbid();
            due("none", x.digest(), digestOf(0, 0, 0, 1, 0, 0, 0, 0));
        });
        holds("what the WINDOW tells, by rows 0 .. 4 to the w-th less 1", "4, 16 and 64 rows, the first and the last", () -> {
            Counted x = new Counted();
            for (int w = 1; w <= 3; w++) {
                x.window(w);
                long[] values = new long[4 + (1 << 2 * w)];
                values[3] = w;
                due("all 0", x.digest(), digestOf(values));
                values[4] = 2;
                values[5] = 1;
                values[values.length - 1] = 3;
                x.tells(0, 2);
                x.tells(1, 1);
                x.tells(values.length - 5, 3);
                due("of " + w, x.digest(), digestOf(values));
            }
            x.window(1);
            due("no row of those that were", x.digest(), digestOf(0, 0, 0, 1, 0, 0, 0, 0));
        });
    }
}
