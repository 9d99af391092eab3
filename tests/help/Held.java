import java.math.BigInteger;
import java.util.ArrayList;
import java.util.Arrays;
import java.util.List;

/** What an object holds, told by hand, and the digest that is due for it. */
final class Held {
    /** By SETS: LETTERS, STATES, WAYS, LIVE STATES, LIVE WAYS, then the bits of STATES by STATES and LETTERS. */
    final List<int[]> sets = new ArrayList<>();
    final List<int[]> forbidden = new ArrayList<>();
    int[] word = {};
    int[] told = new int[4];
    int w = 1;

    /** Two SETS, THE WORD 010, 11 FORBIDDEN, a WINDOW of two LETTERS that tells 1 for 11. */
    static Held filled() {
        Held h = new Held();
        h.sets.add(new int[] {2, 2, 3, 2, 3, 1, 2, 1, 0});
        h.sets.add(new int[] {3, 1, 3, 1, 3, 1, 1, 1});
        h.forbidden.add(new int[] {1, 1});
        h.word = new int[] {0, 1, 0};
        h.window(2);
        h.told[5] = 1;
        return h;
    }

    void window(int width) {
        w = width;
        told = new int[1 << 2 * width];
    }

    long digest() {
        List<Integer> all = new ArrayList<>(List.of(sets.size(), word.length, forbidden.size(), w));
        sets.forEach(row -> put(all, row));
        put(all, word);
        for (int[] row : forbidden) {
            all.add(row.length);
            put(all, row);
        }
        put(all, told);
        return digestOf(all.stream().mapToLong(v -> v).toArray());
    }

    private static void put(List<Integer> all, int[] row) {
        Arrays.stream(row).forEach(all::add);
    }

    /** By big numbers, of which the last 64 bits are told: so the wrap-around is the test's own. */
    static long digestOf(long... values) {
        BigInteger h = BigInteger.valueOf(193);
        for (long v : values) {
            h = h.multiply(BigInteger.valueOf(31)).add(BigInteger.valueOf(v));
        }
        return h.longValue();
    }
}
