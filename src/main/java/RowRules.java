import java.util.Arrays;

/** Rows of letters with rules, told by graphs or by words that may not stand in them. */
public final class RowRules {
    public static final int NONE = -1, BAD = -2, NO = -3, FULL = -4, SPENT = -5;

    private static final int MOST_SETS = 6;
    private static final int LEAST_LETTERS = 2;
    private static final int MOST_LETTERS = 4;
    private static final int MOST_STATES = 16;
    private static final int MOST_WORD = 30;
    private static final int MOST_BARRED = 8;
    private static final int MOST_BARRED_LENGTH = 5;
    private static final int MOST_WINDOW = 3;
    private static final int MOST_MET = 20000;

    private final Graph[] graphs = new Graph[MOST_SETS];
    private int graphCount;
    private final int[] word = new int[MOST_WORD];
    private int wordSize;
    private final Barred barred = new Barred();
    private final Pane pane = new Pane();
    private final Words words;
    private final Parting parting;
    private final Mapping mapping;
    private final Walks walks = new Walks();
    private final Parts parts = new Parts();

    public RowRules() {
        Met met = new Met();
        words = new Words(met);
        parting = new Parting(met);
        mapping = new Mapping(met);
    }

    // ---- sets

    public int set(int letters, int states) {
        if (!within(letters, LEAST_LETTERS, MOST_LETTERS) || !within(states, 1, MOST_STATES)) {
            return BAD;
        }
        if (graphCount >= MOST_SETS) {
            return FULL;
        }
        return keep(new Graph(letters, states));
    }

    public int way(int set, int from, int letter, int to) {
        Graph g = graphAt(set);
        if (g == null || !g.hasWayNumbers(from, letter, to)) {
            return BAD;
        }
        if (g.leads(from, letter, to)) {
            return NO;
        }
        g.turnWay(from, letter, to);
        g.settle();
        return 1;
    }

    public int unway(int set, int from, int letter, int to) {
        Graph g = graphAt(set);
        if (g == null || !g.hasWayNumbers(from, letter, to)) {
            return BAD;
        }
        if (!g.leads(from, letter, to)) {
            return NO;
        }
        g.turnWay(from, letter, to);
        g.settle();
        return 1;
    }

    public int empty() {
        int was = wordSize;
        wordSize = 0;
        return was;
    }

    public int letter(int l) {
        if (!within(l, 0, MOST_LETTERS - 1)) {
            return BAD;
        }
        if (wordSize >= MOST_WORD) {
            return FULL;
        }
        word[wordSize] = l;
        wordSize++;
        return wordSize;
    }

    public int letterAt(int i) {
        return within(i, 0, wordSize - 1) ? word[i] : NONE;
    }

    public int forbid() {
        if (!within(wordSize, 1, MOST_BARRED_LENGTH)) {
            return NO;
        }
        if (barred.size >= MOST_BARRED) {
            return FULL;
        }
        barred.add(word, wordSize);
        return barred.size;
    }

    public int unforbid() {
        int was = barred.size;
        barred.size = 0;
        return was;
    }

    public int byWords(int letters) {
        if (!within(letters, LEAST_LETTERS, MOST_LETTERS) || barred.greatestLetter() >= letters) {
            return BAD;
        }
        int longest = barred.longest();
        int states = power(letters, longest - 1);
        if (states > MOST_STATES) {
            return NO;
        }
        if (graphCount >= MOST_SETS) {
            return FULL;
        }
        Graph g = new Graph(letters, states);
        barred.layWays(g, longest);
        g.settle();
        return keep(g);
    }

    public int about(int set, int what) {
        Graph g = graphAt(set);
        if (g == null) {
            return BAD;
        }
        switch (what) {
            case 0: return g.letters;
            case 1: return g.states;
            case 2: return g.ways;
            case 3: return Integer.bitCount(g.alive);
            case 4: return g.liveWays;
            case 5: return parts.howManyParts(g);
            default: return BAD;
        }
    }

    public int live(int set, int state) {
        Graph g = graphAt(set);
        if (g == null || !g.hasState(state)) {
            return BAD;
        }
        return g.isLive(state) ? 1 : 0;
    }

    public int may(int set) {
        Graph g = graphAt(set);
        if (g == null) {
            return BAD;
        }
        int reached = g.alive;
        for (int i = 0; i < wordSize; i++) {
            reached = g.step(reached, word[i]);
        }
        return reached != 0 ? 1 : 0;
    }

    public long howMany(int set, int n) {
        Graph g = graphAt(set);
        return g == null || !within(n, 0, 24) ? BAD : words.standing(g, n);
    }

    public long loops(int set, int n) {
        Graph g = graphAt(set);
        return g == null || !within(n, 1, 10) ? BAD : walks.closed(g, n);
    }

    public int rounds(int set, int n) {
        Graph g = graphAt(set);
        return g == null || !within(n, 1, Words.MOST_ROUND) ? BAD : words.comingRound(g, n);
    }

    public long growth(int set, int t, int what) {
        Graph g = graphAt(set);
        if (g == null || !within(t, 0, 9) || !within(what, 0, 3)) {
            return BAD;
        }
        return g.alive == 0 ? NO : walks.growing(g, t, what);
    }

    public int same(int set, int other) {
        Graph a = graphAt(set);
        Graph b = graphAt(other);
        if (a == null || b == null) {
            return BAD;
        }
        if (a.letters != b.letters) {
            return NO;
        }
        int answer = parting.seek(a, b);
        if (answer == 0) {
            wordSize = parting.tellWord(word);
        }
        return answer;
    }

    public int part(int set, int state) {
        Graph g = graphAt(set);
        if (g == null || !g.hasState(state)) {
            return BAD;
        }
        return g.isLive(state) ? parts.leastOf(g, state) : NONE;
    }

    public int pace(int set, int state) {
        Graph g = graphAt(set);
        if (g == null || !g.hasState(state)) {
            return BAD;
        }
        return g.isLive(state) ? parts.paceOf(g, state) : NONE;
    }

    // ---- windows, coders

    public int window(int w) {
        if (!within(w, 1, MOST_WINDOW)) {
            return BAD;
        }
        pane.open(w);
        return 1;
    }

    public int tells(int row, int letter) {
        if (!within(row, 0, pane.rows() - 1) || !within(letter, 0, MOST_LETTERS - 1)) {
            return BAD;
        }
        int was = pane.told[row];
        pane.told[row] = letter;
        return was;
    }

    public int maps(int set, int into) {
        Graph a = graphAt(set);
        Graph b = graphAt(into);
        return a == null || b == null ? BAD : mapping.seek(a, b, pane);
    }

    public int weights(int set, int p, int q, int most) {
        Graph g = graphAt(set);
        if (g == null || !areCoderNumbers(p, q, most)) {
            return BAD;
        }
        walks.weigh(g, p, q, most);
        return walks.sumOfWeights(g);
    }

    public int weight(int set, int p, int q, int most, int state) {
        Graph g = graphAt(set);
        if (g == null || !areCoderNumbers(p, q, most) || !g.hasState(state)) {
            return BAD;
        }
        walks.weigh(g, p, q, most);
        return walks.weightOf(g, state);
    }

    public int count(int what) {
        switch (what) {
            case 0: return graphCount;
            case 1: return wordSize;
            case 2: return barred.size;
            case 3: return pane.width;
            default: return BAD;
        }
    }

    public long digest() {
        long h = 193;
        for (int what = 0; what <= 3; what++) {
            h = 31 * h + count(what);
        }
        for (int i = 0; i < graphCount; i++) {
            Graph g = graphAt(i);
            h = g == null ? h : g.digestOn(h);
        }
        for (int i = 0; i < wordSize; i++) {
            h = 31 * h + word[i];
        }
        return pane.digestOn(barred.digestOn(h));
    }

    // ---- help for the calls

    private Graph graphAt(int set) {
        return within(set, 0, graphCount - 1) ? graphs[set] : null;
    }

    private int keep(Graph g) {
        int number = graphCount;
        if (number >= MOST_SETS) {
            return FULL;
        }
        graphs[number] = g;
        graphCount++;
        return number;
    }

    private static boolean areCoderNumbers(int p, int q, int most) {
        return within(p, 1, 8) && within(q, 1, 4) && within(most, 1, 100);
    }

    private static boolean within(int number, int least, int most) {
        return number >= least && number <= most;
    }

    private static int power(int base, int exponent) {
        int result = 1;
        for (int i = 0; i < exponent; i++) {
            result *= base;
        }
        return result;
    }

    private static long commonDivisor(long one, long other) {
        long a = one;
        long b = other;
        // Euclid's steps on two longs are fewer than 100
        for (int i = 0; i < 100 && b != 0; i++) {
            long rest = a % b;
            a = b;
            b = rest;
        }
        return a;
    }

    /** A SET: sets of its states are held as bits. */
    static final class Graph {
        final int letters;
        final int states;
        int ways;
        int alive;
        int liveWays;
        /** Bits of the states to which ways lead, by 4 * state + letter. */
        private final int[] ends = new int[MOST_STATES * MOST_LETTERS];
        /**
         * Where LIVE WAYS lead from four neighbouring states at once, by 64 * letter + 16 * (a fourth of the
         * states) + bits: long searches step often, and so take four looks for a step, not sixteen.
         */
        private final int[] steps = new int[MOST_LETTERS * 64];

        Graph(int letters, int states) {
            this.letters = letters;
            this.states = states;
        }

        boolean hasState(int state) {
            return within(state, 0, states - 1);
        }

        boolean hasWayNumbers(int from, int letter, int to) {
            return hasState(from) && within(letter, 0, letters - 1) && hasState(to);
        }

        boolean isLive(int state) {
            return (alive >> state & 1) != 0;
        }

        boolean leads(int from, int letter, int to) {
            return (ends[from * MOST_LETTERS + letter] >> to & 1) != 0;
        }

        /** Lays a way that is not there, takes one that is; settle is due behind it. */
        void turnWay(int from, int letter, int to) {
            ways += leads(from, letter, to) ? -1 : 1;
            ends[from * MOST_LETTERS + letter] ^= 1 << to;
        }

        int liveEnds(int from, int letter) {
            return isLive(from) ? ends[from * MOST_LETTERS + letter] & alive : 0;
        }

        int liveOuts(int from) {
            int all = 0;
            for (int letter = 0; letter < letters; letter++) {
                all |= liveEnds(from, letter);
            }
            return all;
        }

        /** Where a letter leads by LIVE WAYS; one that the SET has not leads nowhere. */
        int step(int from, int letter) {
            if (letter < 0 || letter >= letters) {
                return 0;
            }
            int at = letter * 64;
            return steps[at + (from & 15)] | steps[at + 16 + (from >> 4 & 15)]
                | steps[at + 32 + (from >> 8 & 15)] | steps[at + 48 + (from >> 12 & 15)];
        }

        /** What hangs on the ways is reckoned when they change, so that no question need do it. */
        void settle() {
            alive = (1 << states) - 1;
            boolean changed = true;
            for (int round = 0; round <= states && changed; round++) {
                int left = stillLinked();
                changed = left != alive;
                alive = left;
            }
            liveWays = 0;
            for (int state = 0; state < states; state++) {
                for (int letter = 0; letter < letters; letter++) {
                    int to = liveEnds(state, letter);
                    liveWays += Integer.bitCount(to);
                }
            }
            fillSteps();
        }

        private int stillLinked() {
            int leading = 0;
            int led = 0;
            for (int state = 0; state < states; state++) {
                int outs = liveOuts(state);
                led |= outs;
                if (outs != 0) {
                    leading |= 1 << state;
                }
            }
            return leading & led;
        }

        private void fillSteps() {
            for (int letter = 0; letter < letters; letter++) {
                for (int state = 0; state < MOST_STATES; state++) {
                    int to = state < states ? liveEnds(state, letter) : 0;
                    int at = letter * 64 + (state >> 2) * 16;
                    int bit = 1 << (state & 3);
                    for (int low = 0; low < bit; low++) {
                        steps[at + bit + low] = steps[at + low] | to;
                    }
                }
            }
        }

        long digestOn(long before) {
            long h = 31 * before + letters;
            h = 31 * h + states;
            h = 31 * h + ways;
            h = 31 * h + Integer.bitCount(alive);
            h = 31 * h + liveWays;
            for (int state = 0; state < states; state++) {
                for (int letter = 0; letter < letters; letter++) {
                    h = 31 * h + ends[state * MOST_LETTERS + letter];
                }
            }
            return h;
        }
    }

    /** The WORDS to be FORBIDDEN. */
    static final class Barred {
        int size;
        private final int[] lengths = new int[MOST_BARRED];
        private final int[] letters = new int[MOST_BARRED * MOST_BARRED_LENGTH];
        private final int[] row = new int[MOST_BARRED_LENGTH];

        /** The caller has looked at the length and whether there is room. */
        void add(int[] word, int length) {
            lengths[size] = length;
            for (int i = 0; i < length; i++) {
                letters[size * MOST_BARRED_LENGTH + i] = word[i];
            }
            size++;
        }

        int greatestLetter() {
            int greatest = 0;
            for (int i = 0; i < size; i++) {
                for (int j = 0; j < lengths[i]; j++) {
                    greatest = Math.max(greatest, letters[i * MOST_BARRED_LENGTH + j]);
                }
            }
            return greatest;
        }

        /** At least 2: states are rows of one letter less, and rows of none would tell nothing. */
        int longest() {
            int longest = 2;
            for (int i = 0; i < size; i++) {
                longest = Math.max(longest, lengths[i]);
            }
            return longest;
        }

        void layWays(Graph g, int longest) {
            int whole = g.states * g.letters;
            for (int number = 0; number < whole; number++) {
                writeRow(number, g.letters, longest);
                if (!standsInRow(longest)) {
                    int last = row[longest - 1];
                    g.turnWay(number / g.letters, last, number % g.states);
                }
            }
        }

        private void writeRow(int number, int base, int length) {
            int rest = number;
            for (int i = length - 1; i >= 0; i--) {
                row[i] = rest % base;
                rest /= base;
            }
        }

        private boolean standsInRow(int length) {
            for (int i = 0; i < size; i++) {
                for (int from = 0; from + lengths[i] <= length; from++) {
                    if (standsAt(i, from)) {
                        return true;
                    }
                }
            }
            return false;
        }

        private boolean standsAt(int which, int from) {
            for (int j = 0; j < lengths[which]; j++) {
                if (row[from + j] != letters[which * MOST_BARRED_LENGTH + j]) {
                    return false;
                }
            }
            return true;
        }

        long digestOn(long before) {
            long h = before;
            for (int i = 0; i < size; i++) {
                h = 31 * h + lengths[i];
                for (int j = 0; j < lengths[i]; j++) {
                    h = 31 * h + letters[i * MOST_BARRED_LENGTH + j];
                }
            }
            return h;
        }
    }

    /** The WINDOW. */
    static final class Pane {
        int width = 1;
        final int[] told = new int[1 << 2 * MOST_WINDOW];

        void open(int w) {
            width = w;
            Arrays.fill(told, 0);
        }

        int rows() {
            return 1 << 2 * width;
        }

        long digestOn(long before) {
            long h = before;
            for (int row = 0; row < rows(); row++) {
                h = 31 * h + told[row];
            }
            return h;
        }
    }

    /**
     * Numbers in the order in which they were met, each once, with a note each. It grows only when a search
     * needs it and is used again by all later ones: what is made is never given back.
     */
    static final class Met {
        private static final int FIRST_ROOM = 64;
        private static final int LAST_BASE = 1000000000;

        int size;
        private int[] keys = new int[FIRST_ROOM];
        private int[] notes = new int[FIRST_ROOM];
        /** Base + place of a key. What is less was put before the last clear, and so is free. */
        private int[] slots = new int[2 * FIRST_ROOM];
        private int base = 1;

        void clear() {
            base += size;
            size = 0;
            if (base > LAST_BASE) {
                Arrays.fill(slots, 0);
                base = 1;
            }
        }

        int keyAt(int place) {
            return within(place, 0, size - 1) ? keys[place] : 0;
        }

        int noteAt(int place) {
            return within(place, 0, size - 1) ? notes[place] : 0;
        }

        void putNote(int place, int note) {
            if (within(place, 0, size - 1)) {
                notes[place] = note;
            }
        }

        /** How many find room before it grows. */
        int room() {
            return keys.length;
        }

        /** A key that was not met yet comes behind the others, with the note 0. */
        int placeOf(int key) {
            if (size >= keys.length) {
                grow();
            }
            int slot = slotOf(key);
            int place = slots[slot] - base;
            if (place >= 0 && place < size) {
                return place;
            }
            slots[slot] = base + size;
            keys[size] = key;
            notes[size] = 0;
            size++;
            return size - 1;
        }

        /** Half of the slots are always free, so a free one or the key's is found. */
        private int slotOf(int key) {
            int mask = slots.length - 1;
            int spread = key * 0x9E3779B1;
            int slot = (spread ^ spread >>> 15) & mask;
            for (int tries = 0; tries < slots.length; tries++) {
                int place = slots[slot] - base;
                if (place < 0 || place >= size || keys[place] == key) {
                    return slot;
                }
                slot = slot + 1 & mask;
            }
            return slot;
        }

        private void grow() {
            int room = 2 * keys.length;
            keys = Arrays.copyOf(keys, room);
            notes = Arrays.copyOf(notes, room);
            slots = new int[2 * room];
            base = 1;
            for (int place = 0; place < size; place++) {
                slots[slotOf(keys[place])] = base + place;
            }
        }
    }

    /** Words that MAY STAND, and rows that come round. */
    static final class Words {
        static final int MOST_ROUND = 7;

        /** Sets of states to which words lead. */
        private final Met met;
        /** The place of the set to which a letter leads from one, or NONE, by 4 * its place + letter. */
        private int[] behind = new int[MOST_LETTERS];
        /** How many words lead to a set, by its place. */
        private long[] many = new long[1];
        private long[] longer = new long[1];
        private final int[] row = new int[MOST_ROUND];
        /** Where the first letters of the row lead. */
        private final int[] led = new int[MOST_ROUND + 1];

        Words(Met met) {
            this.met = met;
        }

        long standing(Graph g, int n) {
            met.clear();
            if (g.alive == 0) {
                return 0;
            }
            met.placeOf(g.alive);
            makeRoom();
            many[0] = 1;
            int linked = 0;
            for (int i = 0; i < n; i++) {
                int known = met.size;
                linkOn(g, linked, known);
                linked = known;
                makeRoom();
                countLonger(g.letters, known);
            }
            long sum = 0;
            for (int place = 0; place < met.size; place++) {
                sum += many[place];
            }
            return sum;
        }

        private void makeRoom() {
            int room = met.room();
            if (many.length < room) {
                many = Arrays.copyOf(many, room);
                longer = Arrays.copyOf(longer, room);
                behind = Arrays.copyOf(behind, MOST_LETTERS * room);
            }
        }

        /** Where letters lead from a set is looked for once, however often words of other lengths lead there. */
        private void linkOn(Graph g, int linked, int known) {
            for (int place = linked; place < known; place++) {
                int from = met.keyAt(place);
                for (int letter = 0; letter < g.letters; letter++) {
                    int to = g.step(from, letter);
                    behind[place * MOST_LETTERS + letter] = to == 0 ? NONE : met.placeOf(to);
                }
            }
        }

        private void countLonger(int letters, int known) {
            for (int place = 0; place < met.size; place++) {
                longer[place] = 0;
            }
            for (int place = 0; place < known; place++) {
                long words = many[place];
                for (int letter = 0; letter < letters && words != 0; letter++) {
                    int to = behind[place * MOST_LETTERS + letter];
                    if (to >= 0) {
                        longer[to] += words;
                    }
                }
            }
            long[] hold = many;
            many = longer;
            longer = hold;
        }

        int comingRound(Graph g, int n) {
            Arrays.fill(row, 0);
            led[0] = g.alive;
            int all = power(g.letters, n);
            int sum = 0;
            int changed = 0;
            for (int i = 0; i < all; i++) {
                for (int j = changed; j < n; j++) {
                    led[j + 1] = g.step(led[j], row[j]);
                }
                if (lasts(g, n)) {
                    sum++;
                }
                changed = turnToNextRow(g.letters, n);
            }
            return sum;
        }

        /** The first place that changed. */
        private int turnToNextRow(int letters, int n) {
            for (int j = n - 1; j > 0; j--) {
                if (row[j] < letters - 1) {
                    row[j]++;
                    return j;
                }
                row[j] = 0;
            }
            row[0]++;
            return 0;
        }

        /**
         * The states behind ever more turns of the row only get fewer: it may go on for ever just if some are
         * left when they are as many as before.
         */
        private boolean lasts(Graph g, int n) {
            int before = g.alive;
            int left = led[n];
            for (int turn = 0; turn < MOST_STATES && left != before && left != 0; turn++) {
                before = left;
                for (int j = 0; j < n; j++) {
                    left = g.step(left, row[j]);
                }
            }
            return left != 0;
        }
    }

    /** The first word by which two SETS part. */
    static final class Parting {
        /** Pairs of sets of states; the note tells 4 * (the pair before) + the letter between. */
        private final Met met;
        private int lastPair;
        private int lastLetter;

        Parting(Met met) {
            this.met = met;
        }

        /** 1: the same; 0: parted; SPENT. */
        int seek(Graph a, Graph b) {
            met.clear();
            lastPair = NONE;
            if ((a.alive == 0) != (b.alive == 0)) {
                return 0;
            }
            met.placeOf(a.alive << 16 | b.alive);
            for (int pair = 0; pair < met.size && pair < MOST_MET; pair++) {
                for (int letter = 0; letter < a.letters; letter++) {
                    int ofA = a.step(met.keyAt(pair) >>> 16, letter);
                    int ofB = b.step(met.keyAt(pair) & 0xFFFF, letter);
                    if ((ofA == 0) != (ofB == 0)) {
                        lastPair = pair;
                        lastLetter = letter;
                        return 0;
                    }
                    if (ofA != 0 && isSpentBy(ofA << 16 | ofB, pair, letter)) {
                        return SPENT;
                    }
                }
            }
            return 1;
        }

        private boolean isSpentBy(int key, int from, int letter) {
            int before = met.size;
            int place = met.placeOf(key);
            if (place == before) {
                met.putNote(place, MOST_LETTERS * from + letter);
            }
            return met.size > MOST_MET;
        }

        /** Writes the first letters of the word that parts, as many as there is room for: how many. */
        int tellWord(int[] into) {
            int length = length();
            int pair = lastPair;
            int letter = lastLetter;
            for (int i = length - 1; i >= 0; i--) {
                if (i < into.length) {
                    into[i] = letter;
                }
                letter = met.noteAt(pair) % MOST_LETTERS;
                pair = met.noteAt(pair) / MOST_LETTERS;
            }
            return Math.min(length, into.length);
        }

        private int length() {
            if (lastPair < 0) {
                return 0;
            }
            int length = 1;
            int pair = lastPair;
            for (int i = 0; i < MOST_MET && pair > 0; i++) {
                pair = met.noteAt(pair) / MOST_LETTERS;
                length++;
            }
            return length;
        }
    }

    /** Whether a WINDOW turns the words of one SET into those of another. */
    static final class Mapping {
        /** By bits: 16 for a set of states of b, 4 for letters, 2 for how many these are, 4 for a state of a. */
        private final Met met;

        Mapping(Met met) {
            this.met = met;
        }

        /** 1: it maps; 0: it does not; SPENT. */
        int seek(Graph a, Graph b, Pane pane) {
            met.clear();
            if (a.alive == 0) {
                return 1;
            }
            if (b.alive == 0) {
                return 0;
            }
            meetAll(a.alive, b.alive);
            for (int at = 0; at < met.size && at < MOST_MET; at++) {
                int key = met.keyAt(at);
                for (int letter = 0; letter < a.letters; letter++) {
                    int ends = a.liveEnds(key >> 22 & 15, letter);
                    if (ends == 0) {
                        continue;
                    }
                    int rest = behind(key, letter, b, pane);
                    if ((rest & 0xFFFF) == 0) {
                        return 0;
                    }
                    meetAll(ends, rest);
                    if (met.size > MOST_MET) {
                        return SPENT;
                    }
                }
            }
            return 1;
        }

        private void meetAll(int states, int rest) {
            for (int state = 0; state < MOST_STATES; state++) {
                if ((states >> state & 1) != 0) {
                    met.placeOf(state << 22 | rest);
                }
            }
        }

        /** What comes of a key, but for the state of a, by one letter more. */
        private int behind(int key, int letter, Graph b, Pane pane) {
            int held = key >> 20 & 3;
            int row = (key >> 16 & 15) << 2 | letter;
            if (held < pane.width - 1) {
                return held + 1 << 20 | (row & 15) << 16 | key & 0xFFFF;
            }
            int told = row < pane.rows() ? pane.told[row] : 0;
            int kept = row & (pane.rows() >> 2) - 1;
            return held << 20 | kept << 16 | b.step(key & 0xFFFF, told);
        }
    }

    /** How many rows of LIVE WAYS lead from state to state, and what hangs on that. */
    static final class Walks {
        private final long[] single = new long[MOST_STATES * MOST_STATES];
        private long[] rows = new long[MOST_STATES * MOST_STATES];
        private long[] spare = new long[MOST_STATES * MOST_STATES];
        private long[] values = new long[MOST_STATES];
        private long[] before = new long[MOST_STATES];

        long closed(Graph g, int n) {
            countRows(g, n);
            long sum = 0;
            for (int state = 0; state < g.states; state++) {
                sum += rows[state * MOST_STATES + state];
            }
            return sum;
        }

        private void countRows(Graph g, int n) {
            countSingle(g);
            System.arraycopy(single, 0, rows, 0, rows.length);
            for (int i = 1; i < n; i++) {
                lengthen(g.states);
            }
        }

        private void countSingle(Graph g) {
            Arrays.fill(single, 0);
            for (int from = 0; from < g.states; from++) {
                for (int letter = 0; letter < g.letters; letter++) {
                    int ends = g.liveEnds(from, letter);
                    for (int to = 0; to < g.states; to++) {
                        single[from * MOST_STATES + to] += ends >> to & 1;
                    }
                }
            }
        }

        private void lengthen(int states) {
            for (int from = 0; from < states; from++) {
                for (int to = 0; to < states; to++) {
                    long sum = 0;
                    for (int over = 0; over < states; over++) {
                        sum += rows[from * MOST_STATES + over] * single[over * MOST_STATES + to];
                    }
                    spare[from * MOST_STATES + to] = sum;
                }
            }
            long[] hold = rows;
            rows = spare;
            spare = hold;
        }

        private long sumAtEnds(long[] lead, int from, int states) {
            long sum = 0;
            for (int to = 0; to < states; to++) {
                sum += lead[from * MOST_STATES + to] * values[to];
            }
            return sum;
        }

        private void turnValues() {
            long[] hold = values;
            values = before;
            before = hold;
        }

        /** Some state is LIVE. */
        long growing(Graph g, int t, int what) {
            countSingle(g);
            setLive(g, 1);
            for (int i = 0; i <= t; i++) {
                for (int state = 0; state < g.states; state++) {
                    before[state] = sumAtEnds(single, state, g.states);
                }
                turnValues();
            }
            int state = utmost(g, what < 2 ? -1 : 1);
            long divisor = commonDivisor(values[state], before[state]);
            long part = (what & 1) == 0 ? values[state] : before[state];
            return divisor == 0 ? 0 : part / divisor;
        }

        private void setLive(Graph g, long value) {
            for (int state = 0; state < MOST_STATES; state++) {
                values[state] = g.isLive(state) ? value : 0;
            }
        }

        /** The LIVE STATE with the least (side -1) or the greatest (side 1) growth. */
        private int utmost(Graph g, int side) {
            int best = NONE;
            for (int state = 0; state < g.states; state++) {
                if (g.isLive(state) && (best < 0
                    || sideOf(values[state], before[state], values[best], before[best]) == side)) {
                    best = state;
                }
            }
            return Math.max(best, 0);
        }

        /**
         * Whether a / b is less than c / d (-1), greater (1), or neither (0). By whole parts, and then by what
         * remains turned over: products across would not find room in a long.
         */
        private static int sideOf(long above, long below, long otherAbove, long otherBelow) {
            long a = above;
            long b = below;
            long c = otherAbove;
            long d = otherBelow;
            int sign = 1;
            for (int i = 0; i < 100 && b != 0 && d != 0; i++) {
                if (a / b != c / d) {
                    return a / b < c / d ? -sign : sign;
                }
                long rest = a % b;
                a = b;
                b = rest;
                rest = c % d;
                c = d;
                d = rest;
                sign = -sign;
            }
            if (b == 0 && d == 0) {
                return 0;
            }
            return b == 0 ? sign : -sign;
        }

        void weigh(Graph g, int p, int q, int most) {
            countRows(g, q);
            setLive(g, most);
            // each round but the last lessens a weight by 1 at least
            int mostRounds = MOST_STATES * most;
            boolean changed = true;
            for (int round = 0; round <= mostRounds && changed; round++) {
                changed = false;
                for (int state = 0; state < g.states; state++) {
                    before[state] = Math.min(values[state], sumAtEnds(rows, state, g.states) >> p);
                    changed = changed || before[state] != values[state];
                }
                turnValues();
            }
        }

        int sumOfWeights(Graph g) {
            int sum = 0;
            for (int state = 0; state < g.states; state++) {
                sum += weightOf(g, state);
            }
            return sum;
        }

        int weightOf(Graph g, int state) {
            return g.hasState(state) ? (int) values[state] : 0;
        }
    }

    /** PARTS and their PACES. */
    static final class Parts {
        /** Bits of the states to which rows of one LIVE WAY or more lead. */
        private final int[] reached = new int[MOST_STATES];
        private final int[] far = new int[MOST_STATES];

        int howManyParts(Graph g) {
            findReached(g);
            int sum = 0;
            for (int state = 0; state < g.states; state++) {
                if (g.isLive(state) && leastIn(members(state)) == state) {
                    sum++;
                }
            }
            return sum;
        }

        int leastOf(Graph g, int state) {
            findReached(g);
            return leastIn(members(state));
        }

        private void findReached(Graph g) {
            for (int state = 0; state < MOST_STATES; state++) {
                reached[state] = state < g.states ? g.liveOuts(state) : 0;
            }
            for (int over = 0; over < g.states; over++) {
                for (int from = 0; from < g.states; from++) {
                    if ((reached[from] >> over & 1) != 0) {
                        reached[from] |= reached[over];
                    }
                }
            }
        }

        private int members(int state) {
            int all = 1 << state;
            for (int other = 0; other < MOST_STATES; other++) {
                if ((reached[state] >> other & 1) != 0 && (reached[other] >> state & 1) != 0) {
                    all |= 1 << other;
                }
            }
            return all;
        }

        private static int leastIn(int states) {
            int least = 0;
            while (least < MOST_STATES && (states >> least & 1) == 0) {
                least++;
            }
            return least;
        }

        /** Each way within the part is as long as its ends are far apart from the state, but for the pace. */
        int paceOf(Graph g, int state) {
            findReached(g);
            int members = members(state);
            measure(g, state, members);
            long pace = 0;
            for (int from = 0; from < g.states; from++) {
                if ((members >> from & 1) != 0) {
                    pace = paceWith(pace, from, g.liveOuts(from) & members);
                }
            }
            return (int) pace;
        }

        private long paceWith(long before, int from, int ends) {
            long pace = before;
            for (int to = 0; to < MOST_STATES; to++) {
                if ((ends >> to & 1) != 0) {
                    pace = commonDivisor(pace, Math.abs(far[from] + 1 - far[to]));
                }
            }
            return pace;
        }

        private void measure(Graph g, int start, int members) {
            Arrays.fill(far, NONE);
            int seen = 1 << start;
            int edge = seen;
            for (int distance = 0; distance < MOST_STATES; distance++) {
                int next = 0;
                for (int state = 0; state < g.states; state++) {
                    if ((edge >> state & 1) != 0) {
                        far[state] = distance;
                        next |= g.liveOuts(state);
                    }
                }
                edge = next & members & ~seen;
                seen |= edge;
            }
        }
    }
}
