import java.util.Arrays;

/**
 * Trees of sentences by heads: best trees and how many there are, weights learned from kept trees,
 * questions to trees, agreement of trees. The document ../shared/DOC.md says what each call promises.
 */
public final class HeadTrees {
    public static final int NONE = -1, UNKNOWN = -101, OUTSIDE = -102, STATE = -103, FULL = -104;

    private static final int MOST_WORDS = 7;
    /** The root and the words: what a head can be. */
    private static final int PLACES = MOST_WORDS + 1;
    private static final int WORD_TAGS = 10;
    private static final int ROOT_TAG = 10;
    private static final int SIDES = 2;

    private static final int MOST_WEIGHT = 1000000;
    private static final int NO_WEIGHT = -2000000;

    private static final int SORT_SMOOTH = 1;
    private static final int RANKS = 31;
    /** Enough for a row of keys a set of words, and for two rows a pair of places. */
    private static final int KEY_ROWS = 2 * PLACES * PLACES;
    private static final int NO_TREE = -100000000;
    private static final int NO_SUCH_RANK = -100000001;

    private static final int MOST_KEPT = 20;
    private static final int MOST_ASKED = 6;
    private static final int VARIABLES = 4;
    private static final int ASK_OVER = 0, ASK_HEAD = 1, ASK_AHEAD = 2, ASK_TAG = 3, ASK_OTHER = 4;

    private final Drawing hand;
    private final Arcs arcs;
    private final AllTrees allTrees;
    private final SmoothTrees smoothTrees;
    private final Archive archive;
    private final TagTable tagTable;
    private final Questions questions;

    public HeadTrees() {
        hand = new Drawing();
        arcs = new Arcs();
        TopKeys[] rows = TopKeys.rows();
        allTrees = new AllTrees(rows);
        smoothTrees = new SmoothTrees(rows);
        archive = new Archive();
        tagTable = new TagTable();
        questions = new Questions();
    }

    // ---- the sentence

    public int words(int n) {
        if (n < 1 || n > MOST_WORDS) {
            return OUTSIDE;
        }
        hand.restart(n);
        arcs.restart();
        return n;
    }

    public int tag(int d, int t) {
        if (!hand.hasWord(d)) {
            return UNKNOWN;
        }
        if (!isWordTag(t)) {
            return OUTSIDE;
        }
        int before = hand.tags[d];
        hand.tags[d] = t;
        return before;
    }

    public int weight(int h, int d, int w) {
        if (!hand.hasArc(h, d)) {
            return UNKNOWN;
        }
        if (w < -MOST_WEIGHT || w > MOST_WEIGHT) {
            return OUTSIDE;
        }
        int slot = Arcs.slot(h, d);
        int before = arcs.weights[slot];
        arcs.weights[slot] = w;
        return before;
    }

    public int forbid(int h, int d, boolean is) {
        if (!hand.hasArc(h, d)) {
            return UNKNOWN;
        }
        int slot = Arcs.slot(h, d);
        int before = arcs.forbidden[slot];
        arcs.forbidden[slot] = is ? 1 : 0;
        return before;
    }

    public int weighs(int h, int d) {
        return hand.hasArc(h, d) ? arcs.weights[Arcs.slot(h, d)] : NO_WEIGHT;
    }

    // ---- the tree at hand

    public int head(int d, int h) {
        if (!hand.hasArc(h, d)) {
            return UNKNOWN;
        }
        int before = hand.heads[d];
        hand.heads[d] = h;
        return before;
    }

    public int headOf(int d) {
        return hand.hasWord(d) ? hand.heads[d] : NONE;
    }

    public int is() {
        int kind = 0;
        if (hand.isTree()) {
            kind = hand.isSmooth() ? 2 : 1;
        }
        return arcs.allowAll(hand) ? kind + 4 : kind;
    }

    public int sum() {
        return Keys.sumIn(arcs.keyOf(hand));
    }

    public int over(int a, int b) {
        if (!hand.hasPlace(a) || !hand.hasWord(b)) {
            return UNKNOWN;
        }
        if (!hand.isTree()) {
            return STATE;
        }
        return hand.isAbove(a, b) ? 1 : 0;
    }

    public int about(int d, int what) {
        if (!hand.hasWord(d)) {
            return UNKNOWN;
        }
        if (what < 0 || what > 3) {
            return OUTSIDE;
        }
        if (!hand.isTree()) {
            return STATE;
        }
        switch (what) {
            case 0:
                return hand.headsBeforeRoot(d);
            case 1:
                return hand.wordsBelow(d);
            case 2:
                return hand.firstWithin(d);
            default:
                return hand.lastWithin(d);
        }
    }

    // ---- best trees

    public int best(int sort, int k) {
        if (!isSort(sort) || k < 0 || k >= RANKS) {
            return NO_SUCH_RANK;
        }
        TopKeys first = firstTrees(sort, k + 1);
        if (k >= first.size) {
            return NO_TREE;
        }
        long key = first.keys[k];
        hand.takeHeads(key);
        return Keys.sumIn(key);
    }

    public long trees(int sort) {
        if (!isSort(sort)) {
            return OUTSIDE;
        }
        return sort == SORT_SMOOTH ? smoothTrees.howMany(arcs, hand.size) : allTrees.howMany(arcs, hand.size);
    }

    public int rank(int sort) {
        if (!isSort(sort)) {
            return OUTSIDE;
        }
        return firstTrees(sort, RANKS).find(arcs.keyOf(hand));
    }

    private TopKeys firstTrees(int sort, int limit) {
        return sort == SORT_SMOOTH
                ? smoothTrees.first(arcs, hand.size, limit)
                : allTrees.first(arcs, hand.size, limit);
    }

    // ---- kept trees, learning

    public int keep() {
        if (!hand.isTree()) {
            return STATE;
        }
        int number = archive.add(hand);
        if (number >= 0) {
            tagTable.record(hand, 1);
        }
        return number;
    }

    public int forget(int k) {
        Drawing gone = archive.remove(k);
        if (gone == null) {
            return UNKNOWN;
        }
        tagTable.record(gone, -1);
        return gone.size;
    }

    public int recall(int k) {
        Drawing found = archive.find(k);
        if (found == null) {
            return UNKNOWN;
        }
        hand.copyFrom(found);
        arcs.restart();
        return hand.size;
    }

    public int table(int a, int b, int side) {
        if (a < 0 || a > ROOT_TAG || !isWordTag(b) || side < 0 || side >= SIDES) {
            return OUTSIDE;
        }
        return tagTable.counts[TagTable.slot(a, b, side)];
    }

    public int learn() {
        int all = 0;
        for (int d = 1; d <= hand.size; d++) {
            for (int h = 0; h <= hand.size; h++) {
                if (h != d) {
                    int learned = tagTable.learnedWeight(hand.tags[h], hand.tags[d], Drawing.sideOf(h, d));
                    arcs.weights[Arcs.slot(h, d)] = learned;
                    all += learned;
                }
            }
        }
        return all;
    }

    // ---- questions

    public int ask(int sort, int x, int y) {
        boolean fits = sort == ASK_TAG ? isWordTag(y) : isVariable(y);
        if (sort < ASK_OVER || sort > ASK_OTHER || !isVariable(x) || !fits) {
            return OUTSIDE;
        }
        return questions.add(sort, x, y);
    }

    public int clear() {
        int before = questions.size;
        questions.size = 0;
        return before;
    }

    public int answers(int k) {
        return searched(k, NONE);
    }

    public int answer(int k, int i) {
        int found = searched(k, i);
        return found < 0 ? found : questions.picked;
    }

    /** How many answers there are, the wanted one being picked; below 0: the refusal. */
    private int searched(int k, int wanted) {
        Drawing drawing = drawn(k);
        if (drawing == null) {
            return UNKNOWN;
        }
        if (questions.size == 0 || !drawing.isTree()) {
            return STATE;
        }
        return questions.search(drawing, wanted);
    }

    /** The kept one of that number, or what is at hand for NONE; null: there is none. */
    private Drawing drawn(int k) {
        return k == NONE ? hand : archive.find(k);
    }

    // ---- agreement

    public int agree(int k, int l) {
        Drawing one = drawn(k);
        Drawing other = drawn(l);
        if (one == null || other == null) {
            return UNKNOWN;
        }
        return areComparable(one, other) ? Drawing.likeHeads(one, other) : STATE;
    }

    public int near(int k, int l) {
        Drawing one = drawn(k);
        Drawing other = drawn(l);
        if (one == null || other == null) {
            return UNKNOWN;
        }
        return areComparable(one, other) ? Drawing.likePairs(one, other) : STATE;
    }

    private static boolean areComparable(Drawing one, Drawing other) {
        return one.size == other.size && one.isTree() && other.isTree();
    }

    // ---- what is told

    public int count(int what) {
        switch (what) {
            case 0:
                return hand.size;
            case 1:
                return archive.here();
            case 2:
                return questions.size;
            case 3:
                return arcs.howManyForbidden();
            case 4:
                return archive.ever;
            default:
                return OUTSIDE;
        }
    }

    public long digest() {
        long so = mixed(139L, hand.size);
        for (int d = 1; d <= hand.size; d++) {
            so = mixed(mixed(so, hand.tags[d]), hand.heads[d]);
            so = mixedArcs(so, d);
        }
        for (int k = 0; k < archive.ever; k++) {
            so = mixedKept(so, archive.find(k));
        }
        for (int q = 0; q < questions.size; q++) {
            so = mixed(so, questions.sorts[q]);
            so = mixed(mixed(so, questions.firsts[q]), questions.seconds[q]);
        }
        return so;
    }

    private long mixedArcs(long before, int d) {
        long so = before;
        for (int h = 0; h <= hand.size; h++) {
            if (h != d) {
                int slot = Arcs.slot(h, d);
                so = mixed(mixed(so, arcs.weights[slot]), arcs.forbidden[slot]);
            }
        }
        return so;
    }

    private static long mixedKept(long before, Drawing kept) {
        if (kept == null) {
            return mixed(before, -1);
        }
        long so = mixed(before, kept.size);
        for (int d = 1; d <= kept.size; d++) {
            so = mixed(mixed(so, kept.tags[d]), kept.heads[d]);
        }
        return so;
    }

    private static long mixed(long before, int number) {
        return 31L * before + number;
    }

    private static boolean isWordTag(int t) {
        return t >= 0 && t < WORD_TAGS;
    }

    private static boolean isSort(int sort) {
        return sort == 0 || sort == SORT_SMOOTH;
    }

    private static boolean isVariable(int x) {
        return x >= 0 && x < VARIABLES;
    }

    /** A sentence's tags and the heads of its words, at hand or kept. */
    private static final class Drawing {
        private final int[] tags;
        private final int[] heads;
        private int size;

        Drawing() {
            tags = new int[PLACES];
            heads = new int[PLACES];
            restart(1);
        }

        void restart(int n) {
            Arrays.fill(tags, 0);
            Arrays.fill(heads, 0);
            tags[0] = ROOT_TAG;
            size = n;
        }

        void copyFrom(Drawing other) {
            System.arraycopy(other.tags, 0, tags, 0, PLACES);
            System.arraycopy(other.heads, 0, heads, 0, PLACES);
            size = other.size;
        }

        void takeHeads(long key) {
            for (int d = 1; d <= size; d++) {
                heads[d] = Keys.headIn(key, d);
            }
        }

        boolean hasWord(int d) {
            return d >= 1 && d <= size;
        }

        boolean hasPlace(int p) {
            return p >= 0 && p <= size;
        }

        boolean hasArc(int h, int d) {
            return hasPlace(h) && hasWord(d) && h != d;
        }

        /** The root stands ahead of every word, so that its side needs no case of its own. */
        static int sideOf(int h, int d) {
            return h < d ? 0 : 1;
        }

        /** Bit p is set for each place p that one comes to from d; the bound holds on a circle, too. */
        int placesAbove(int d) {
            int found = 0;
            int at = d;
            for (int step = 0; step < size; step++) {
                at = heads[at];
                found |= 1 << at;
                if (at == 0) {
                    break;
                }
            }
            return found;
        }

        boolean isAbove(int a, int b) {
            return (placesAbove(b) >> a & 1) != 0;
        }

        boolean isTree() {
            for (int d = 1; d <= size; d++) {
                if (!isAbove(0, d)) {
                    return false;
                }
            }
            return true;
        }

        /** Asked of trees alone. */
        boolean isSmooth() {
            for (int d = 1; d <= size; d++) {
                int h = heads[d];
                for (int between = Math.min(h, d) + 1; between < Math.max(h, d); between++) {
                    if (!isAbove(h, between)) {
                        return false;
                    }
                }
            }
            return true;
        }

        int headsBeforeRoot(int d) {
            return Integer.bitCount(placesAbove(d)) - 1;
        }

        int wordsBelow(int d) {
            int found = 0;
            for (int w = 1; w <= size; w++) {
                if (isAbove(d, w)) {
                    found++;
                }
            }
            return found;
        }

        int firstWithin(int d) {
            for (int w = 1; w < d; w++) {
                if (isAbove(d, w)) {
                    return w;
                }
            }
            return d;
        }

        int lastWithin(int d) {
            for (int w = size; w > d; w--) {
                if (isAbove(d, w)) {
                    return w;
                }
            }
            return d;
        }

        static int likeHeads(Drawing one, Drawing other) {
            int like = 0;
            for (int d = 1; d <= one.size; d++) {
                if (one.heads[d] == other.heads[d]) {
                    like++;
                }
            }
            return like;
        }

        static int likePairs(Drawing one, Drawing other) {
            int like = 0;
            for (int b = 2; b <= one.size; b++) {
                for (int a = 1; a < b; a++) {
                    if (one.isAbove(a, b) == other.isAbove(a, b) && one.isAbove(b, a) == other.isAbove(b, a)) {
                        like++;
                    }
                }
            }
            return like;
        }
    }

    /**
     * A tree as one number, its key: the sum high up, below it (taken off) the heads as digits, that of word 1
     * first. So a greater key is an earlier tree, no two trees have the same, and keys of parts of a tree add up.
     */
    private static final class Keys {
        private static final int DIGIT = 3;
        private static final int ALL_DIGITS = DIGIT * MOST_WORDS;
        private static final int DIGIT_MASK = (1 << DIGIT) - 1;

        private Keys() {
        }

        static long ofArc(int weight, int h, int d) {
            return ((long) weight << ALL_DIGITS) - ((long) h << shiftOf(d));
        }

        static int sumIn(long key) {
            return (int) -(-key >> ALL_DIGITS);
        }

        static int headIn(long key, int d) {
            return (int) (-key >> shiftOf(d)) & DIGIT_MASK;
        }

        private static int shiftOf(int d) {
            return DIGIT * (MOST_WORDS - d);
        }
    }

    /** Of each head and word the weight, and 1 if it is forbidden. */
    private static final class Arcs {
        private final int[] weights;
        private final int[] forbidden;

        Arcs() {
            weights = new int[PLACES * PLACES];
            forbidden = new int[PLACES * PLACES];
        }

        static int slot(int h, int d) {
            return d * PLACES + h;
        }

        void restart() {
            Arrays.fill(weights, 0);
            Arrays.fill(forbidden, 0);
        }

        boolean allow(int h, int d) {
            return forbidden[slot(h, d)] == 0;
        }

        boolean allowAll(Drawing drawing) {
            for (int d = 1; d <= drawing.size; d++) {
                if (!allow(drawing.heads[d], d)) {
                    return false;
                }
            }
            return true;
        }

        long key(int h, int d) {
            return Keys.ofArc(weights[slot(h, d)], h, d);
        }

        long keyOf(Drawing drawing) {
            long key = 0;
            for (int d = 1; d <= drawing.size; d++) {
                key += key(drawing.heads[d], d);
            }
            return key;
        }

        int howManyForbidden() {
            int found = 0;
            for (int is : forbidden) {
                found += is;
            }
            return found;
        }
    }

    /** The greatest keys of those that were offered, the greatest first, each once, up to a limit. */
    private static final class TopKeys {
        private final long[] keys;
        private int size;
        private int limit;

        TopKeys() {
            keys = new long[RANKS];
            restart(RANKS);
        }

        static TopKeys[] rows() {
            TopKeys[] rows = new TopKeys[KEY_ROWS];
            for (int i = 0; i < KEY_ROWS; i++) {
                rows[i] = new TopKeys();
            }
            return rows;
        }

        void restart(int newLimit) {
            size = 0;
            limit = Math.max(1, Math.min(newLimit, RANKS));
        }

        /** The one way to hang no words at all. */
        void restartBare(int newLimit) {
            restart(newLimit);
            offer(0L);
        }

        int find(long key) {
            for (int i = 0; i < size; i++) {
                if (keys[i] == key) {
                    return i;
                }
            }
            return NONE;
        }

        /** Takes a key in its place; false: neither it nor a lesser one is among the greatest. */
        boolean offer(long key) {
            if (size >= limit && key <= keys[limit - 1]) {
                return false;
            }
            int at = size;
            while (at > 0 && keys[at - 1] < key) {
                at--;
            }
            // the same key is the same tree, found on another way
            if (at > 0 && keys[at - 1] == key) {
                return true;
            }
            if (size < limit) {
                size++;
            }
            for (int i = size - 1; i > at; i--) {
                keys[i] = keys[i - 1];
            }
            keys[at] = key;
            return true;
        }

        /** Offers the first keys of a part, each with more; whether the first of them was of use. */
        boolean offerSome(TopKeys part, int most, long more) {
            int used = 0;
            while (used < part.size && used < most && offer(part.keys[used] + more)) {
                used++;
            }
            return used > 0;
        }

        /** A sum of the parts' keys i and j stands behind (i + 1) * (j + 1) - 1 others: many are never tried. */
        void offerPairs(TopKeys one, TopKeys other, long more) {
            int i = 0;
            while (i < one.size && offerSome(other, limit / (i + 1), one.keys[i] + more)) {
                i++;
            }
        }
    }

    /** All allowed trees: the first ones, built up word by word over sets of words, and how many there are. */
    private static final class AllTrees {
        /** By the set of words that hang already: word d is bit d - 1. */
        private final TopKeys[] bySet;
        private final long[] matrix;

        AllTrees(TopKeys[] rows) {
            bySet = rows;
            matrix = new long[PLACES * PLACES];
        }

        TopKeys first(Arcs arcs, int n, int limit) {
            int whole = (1 << n) - 1;
            bySet[0].restartBare(limit);
            for (int set = 1; set <= whole; set++) {
                bySet[set].restart(limit);
                for (int d = 1; d <= n; d++) {
                    if ((set >> d - 1 & 1) != 0) {
                        hangLast(arcs, set, d);
                    }
                }
            }
            return bySet[whole];
        }

        /** Every tree has a word that nothing hangs on: here d, the others of the set being a tree already. */
        private void hangLast(Arcs arcs, int set, int d) {
            int rest = set & ~(1 << d - 1);
            int places = rest << 1 | 1;
            for (int h = 0; h < PLACES; h++) {
                if ((places >> h & 1) != 0 && arcs.allow(h, d)) {
                    bySet[set].offerSome(bySet[rest], RANKS, arcs.key(h, d));
                }
            }
        }

        /**
         * The matrix-tree theorem: the determinant of the words' matrix, by elimination that stays among whole
         * numbers (each division leaves nothing over). A pivot counts the ways to give words 1 to p heads without
         * a circle among them, so that at 0 there is no tree at all and no rows need be exchanged.
         */
        long howMany(Arcs arcs, int n) {
            for (int d = 1; d <= n; d++) {
                fillRow(arcs, n, d);
            }
            long divisor = 1;
            for (int p = 1; p < n; p++) {
                long pivot = matrix[cell(p, p)];
                if (pivot == 0) {
                    return 0;
                }
                eliminate(n, p, pivot, divisor);
                divisor = pivot;
            }
            return matrix[cell(n, n)];
        }

        private void fillRow(Arcs arcs, int n, int d) {
            int allowed = 0;
            for (int h = 0; h <= n; h++) {
                boolean is = h != d && arcs.allow(h, d);
                matrix[cell(d, h)] = is ? -1 : 0;
                allowed += is ? 1 : 0;
            }
            matrix[cell(d, d)] = allowed;
        }

        private void eliminate(int n, int p, long pivot, long divisor) {
            if (divisor == 0) {
                return;
            }
            for (int row = p + 1; row <= n; row++) {
                for (int column = p + 1; column <= n; column++) {
                    long crossed = matrix[cell(row, p)] * matrix[cell(p, column)];
                    matrix[cell(row, column)] = (matrix[cell(row, column)] * pivot - crossed) / divisor;
                }
            }
        }

        private static int cell(int row, int column) {
            return row * PLACES + column;
        }
    }

    /**
     * The smooth trees among them, each put together in one way alone, of spans and meetings. A span from a to b
     * (ahead of it or behind): the words from there to b hang below a. A meeting of i and j: the words between hang,
     * the first ones below i, the others below j, so that one of the two can become the other's head.
     */
    private static final class SmoothTrees {
        private final TopKeys[] rows;
        private final long[] spanWays;
        private final long[] meetingWays;

        SmoothTrees(TopKeys[] rows) {
            this.rows = rows;
            spanWays = new long[PLACES * PLACES];
            meetingWays = new long[PLACES * PLACES];
        }

        TopKeys first(Arcs arcs, int n, int limit) {
            for (int i = 0; i <= n; i++) {
                span(i, i).restartBare(limit);
            }
            for (int length = 1; length <= n; length++) {
                for (int i = 0; i + length <= n; i++) {
                    int j = i + length;
                    meet(i, j, limit);
                    spread(arcs, i, j, limit);
                    // the root hangs on nothing
                    if (i > 0) {
                        spread(arcs, j, i, limit);
                    }
                }
            }
            return span(0, n);
        }

        private void meet(int i, int j, int limit) {
            TopKeys met = meeting(i, j);
            met.restart(limit);
            for (int last = i; last < j; last++) {
                met.offerPairs(span(i, last), span(j, last + 1), 0L);
            }
        }

        private void spread(Arcs arcs, int a, int b, int limit) {
            TopKeys spread = span(a, b);
            spread.restart(limit);
            for (int far = 1; far <= Math.abs(b - a); far++) {
                int d = farthest(a, b, far);
                if (arcs.allow(a, d)) {
                    spread.offerPairs(meeting(a, d), span(d, b), arcs.key(a, d));
                }
            }
        }

        /** The farthest word of a span whose head is a stands so far from it. */
        private static int farthest(int a, int b, int far) {
            return a < b ? a + far : a - far;
        }

        long howMany(Arcs arcs, int n) {
            for (int i = 0; i <= n; i++) {
                spanWays[cell(i, i)] = 1;
            }
            for (int length = 1; length <= n; length++) {
                for (int i = 0; i + length <= n; i++) {
                    int j = i + length;
                    meetingWays[meetingCell(i, j)] = waysToMeet(i, j);
                    spanWays[cell(i, j)] = waysToSpread(arcs, i, j);
                    if (i > 0) {
                        spanWays[cell(j, i)] = waysToSpread(arcs, j, i);
                    }
                }
            }
            return spanWays[cell(0, n)];
        }

        private long waysToMeet(int i, int j) {
            long ways = 0;
            for (int last = i; last < j; last++) {
                ways += spanWays[cell(i, last)] * spanWays[cell(j, last + 1)];
            }
            return ways;
        }

        private long waysToSpread(Arcs arcs, int a, int b) {
            long ways = 0;
            for (int far = 1; far <= Math.abs(b - a); far++) {
                int d = farthest(a, b, far);
                if (arcs.allow(a, d)) {
                    ways += meetingWays[meetingCell(a, d)] * spanWays[cell(d, b)];
                }
            }
            return ways;
        }

        private TopKeys span(int a, int b) {
            return rows[cell(a, b)];
        }

        private TopKeys meeting(int a, int b) {
            return rows[PLACES * PLACES + meetingCell(a, b)];
        }

        private static int meetingCell(int a, int b) {
            return cell(Math.min(a, b), Math.max(a, b));
        }

        private static int cell(int a, int b) {
            return a * PLACES + b;
        }
    }

    /** The kept ones by their numbers; one that is gone leaves its place empty for good. */
    private static final class Archive {
        private final Drawing[] ones;
        private int ever;

        Archive() {
            ones = new Drawing[MOST_KEPT];
        }

        Drawing find(int k) {
            return k >= 0 && k < ever ? ones[k] : null;
        }

        /** The number of what is added, or FULL. */
        int add(Drawing drawing) {
            if (ever >= MOST_KEPT) {
                return FULL;
            }
            Drawing copy = new Drawing();
            copy.copyFrom(drawing);
            ones[ever] = copy;
            ever++;
            return ever - 1;
        }

        /** What has been there; null: nothing was. */
        Drawing remove(int k) {
            Drawing gone = find(k);
            if (gone != null) {
                ones[k] = null;
            }
            return gone;
        }

        int here() {
            int found = 0;
            for (int k = 0; k < ever; k++) {
                if (ones[k] != null) {
                    found++;
                }
            }
            return found;
        }
    }

    /** How many words of a tag have a head of a tag on a side, over the kept ones that are not gone. */
    private static final class TagTable {
        /** One for each tag and side that a head can have: the root can't stand behind. */
        private static final int CELLS_OF_TAG = (ROOT_TAG + 1) * SIDES - 1;

        private final int[] counts;
        private final int[] totals;

        TagTable() {
            counts = new int[(ROOT_TAG + 1) * WORD_TAGS * SIDES];
            totals = new int[WORD_TAGS];
        }

        static int slot(int a, int b, int side) {
            return (a * WORD_TAGS + b) * SIDES + side;
        }

        void record(Drawing drawing, int step) {
            for (int d = 1; d <= drawing.size; d++) {
                int h = drawing.heads[d];
                counts[slot(drawing.tags[h], drawing.tags[d], Drawing.sideOf(h, d))] += step;
                totals[drawing.tags[d]] += step;
            }
        }

        int learnedWeight(int a, int b, int side) {
            int divisor = totals[b] + CELLS_OF_TAG;
            return divisor > 0 ? 1000 * (counts[slot(a, b, side)] + 1) / divisor : 0;
        }
    }

    /** What is asked, and the search for answers in a drawing. */
    private static final class Questions {
        private final int[] sorts;
        private final int[] firsts;
        private final int[] seconds;
        private int size;

        /** Of each variable the word that is tried, and which words are to be tried. */
        private final int[] values;
        private final int[] lows;
        private final int[] highs;
        private final int[] above;
        private int found;
        private int picked;

        Questions() {
            sorts = new int[MOST_ASKED];
            firsts = new int[MOST_ASKED];
            seconds = new int[MOST_ASKED];
            values = new int[VARIABLES];
            lows = new int[VARIABLES];
            highs = new int[VARIABLES];
            above = new int[PLACES];
        }

        /** How many are asked then, or FULL. */
        int add(int sort, int x, int y) {
            if (size >= MOST_ASKED) {
                return FULL;
            }
            sorts[size] = sort;
            firsts[size] = x;
            seconds[size] = y;
            size++;
            return size;
        }

        /** How many answers there are; that of number wanted is left in picked, or NONE. */
        int search(Drawing drawing, int wanted) {
            prepare(drawing);
            for (int a = lows[0]; a <= highs[0]; a++) {
                if (!isFit(drawing, 0, a)) {
                    continue;
                }
                for (int b = lows[1]; b <= highs[1]; b++) {
                    if (isFit(drawing, 1, b)) {
                        searchBehind(drawing, wanted);
                    }
                }
            }
            return found;
        }

        /** Variables 0 and 1 have their words: the other two. */
        private void searchBehind(Drawing drawing, int wanted) {
            for (int c = lows[2]; c <= highs[2]; c++) {
                if (!isFit(drawing, 2, c)) {
                    continue;
                }
                for (int d = lows[3]; d <= highs[3]; d++) {
                    if (isFit(drawing, 3, d)) {
                        note(wanted);
                    }
                }
            }
        }

        private void note(int wanted) {
            if (found == wanted) {
                picked = 1000 * values[0] + 100 * values[1] + 10 * values[2] + values[3];
            }
            found++;
        }

        private void prepare(Drawing drawing) {
            found = 0;
            picked = NONE;
            for (int d = 1; d <= drawing.size; d++) {
                above[d] = drawing.placesAbove(d);
            }
            for (int v = 0; v < VARIABLES; v++) {
                boolean asked = isAskedOf(v);
                lows[v] = asked ? 1 : 0;
                highs[v] = asked ? drawing.size : 0;
            }
        }

        private boolean isAskedOf(int v) {
            for (int q = 0; q < size; q++) {
                if (firsts[q] == v || sorts[q] != ASK_TAG && seconds[q] == v) {
                    return true;
                }
            }
            return false;
        }

        /** Tries a word for a variable, those below it having theirs: what can be told by now must hold. */
        private boolean isFit(Drawing drawing, int variable, int word) {
            values[variable] = word;
            for (int q = 0; q < size; q++) {
                if (lastVariable(q) == variable && !holds(drawing, q)) {
                    return false;
                }
            }
            return true;
        }

        private int lastVariable(int q) {
            return sorts[q] == ASK_TAG ? firsts[q] : Math.max(firsts[q], seconds[q]);
        }

        private boolean holds(Drawing drawing, int q) {
            int x = values[firsts[q]];
            if (sorts[q] == ASK_TAG) {
                return drawing.tags[x] == seconds[q];
            }
            int y = values[seconds[q]];
            switch (sorts[q]) {
                case ASK_OVER:
                    return (above[y] >> x & 1) != 0;
                case ASK_HEAD:
                    return drawing.heads[y] == x;
                case ASK_AHEAD:
                    return x < y;
                default:
                    return x != y;
            }
        }
    }
}
