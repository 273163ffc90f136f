/** Boundary cases of promises 1 to 6: a new object, and the sentence. */
public final class SentenceEdgesTest {
    private static final int NONE = -1;
    private static final int UNKNOWN = -101;
    private static final int OUTSIDE = -102;
    private static final int STATE = -103;
    private static final int NO_WEIGHT = -2000000;

    private final Edges edges = new Edges();

    public static void main(String[] args) {
        SentenceEdgesTest test = new SentenceEdgesTest();
        test.newObject();
        test.newObjectIsEmpty();
        test.newObjectsAreApart();
        test.words();
        test.wordsClearAll();
        test.tag();
        test.tagRefused();
        test.weight();
        test.weightsAreApart();
        test.weightRefused();
        test.forbid();
        test.forbidRefused();
        test.weighs();
        test.edges.end(1, 6);
    }

    private void newObject() {
        edges.promise(1, "A new object");
        edges.tells("one WORD", HeadTrees::new, x -> x.count(0), 1);
        edges.answers("WORD 1 has TAG 0", HeadTrees::new, x -> x.tag(1, 9), 0);
        edges.tells("WORD 1 hangs on THE ROOT", HeadTrees::new, x -> x.headOf(1), 0);
        edges.tells("no WORD 2", HeadTrees::new, x -> x.headOf(2), NONE);
        edges.tells("WEIGHT 0", HeadTrees::new, x -> x.weighs(0, 1), 0);
        edges.tells("nothing FORBIDDEN", HeadTrees::new, x -> x.count(3), 0);
        edges.tells("an ALLOWED, SMOOTH TREE", HeadTrees::new, x -> x.is(), 6);
        edges.tells("digest of 1, 0, 0, 0, 0", HeadTrees::new, x -> x.digest(),
            ((((139L * 31 + 1) * 31) * 31) * 31) * 31);
    }

    private void newObjectIsEmpty() {
        edges.tells("no KEPT ones", HeadTrees::new, x -> x.count(1), 0);
        edges.tells("no KEPT ones ever", HeadTrees::new, x -> x.count(4), 0);
        edges.refuses("no KEPT one to forget", HeadTrees::new, x -> x.forget(0), UNKNOWN);
        edges.refuses("no KEPT one to recall", HeadTrees::new, x -> x.recall(0), UNKNOWN);
        edges.refuses("no KEPT one to ask", HeadTrees::new, x -> x.answers(0), UNKNOWN);
        edges.answers("the first KEPT one is 0", HeadTrees::new, x -> x.keep(), 0);
        edges.tells("nothing ASKED", HeadTrees::new, x -> x.count(2), 0);
        edges.tells("nothing ASKED to clear", HeadTrees::new, x -> x.clear(), 0);
        edges.refuses("nothing ASKED to answer", HeadTrees::new, x -> x.answers(NONE), STATE);
        edges.answers("the first thing ASKED", HeadTrees::new, x -> x.ask(0, 0, 1), 1);
        HeadTrees x = new HeadTrees();
        for (int cell = 0; cell < 220; cell++) {
            edges.due("THE TABLE counts nothing", x.table(cell / 20, cell / 2 % 10, cell % 2), 0);
        }
    }

    private void newObjectsAreApart() {
        HeadTrees first = new HeadTrees();
        HeadTrees busy = Scenes.busy();
        edges.due("the other object was used", busy.count(4), 4);
        edges.dueAlike("an object beside one that is used", first, new HeadTrees());
    }

    private void words() {
        edges.promise(2, "words");
        for (int n = 1; n <= 7; n++) {
            int number = n;
            HeadTrees x = edges.answers(n + " WORDS", Scenes::busy, y -> y.words(number), n);
            edges.dueHeads(n + " WORDS", x, new int[n]);
            edges.due(n + " WORDS, no WORD behind", x.headOf(n + 1), NONE);
            edges.due(n + " WORDS, all WEIGHTS 0 and TAGS 0", x.digest(), digestOfBusyWith(n));
        }
        edges.refusesEachAndFar("n is OUTSIDE", Scenes::busy, HeadTrees::words, OUTSIDE, 0, 8, -1, 9);
        edges.refusesEach("n is OUTSIDE, of a new object", HeadTrees::new, HeadTrees::words, OUTSIDE, 0, 8);
        edges.refusesEach("n is OUTSIDE, no TREE at hand", Scenes::circle, HeadTrees::words, OUTSIDE, 0, 8);
    }

    /** What is kept and asked in the busy scene stays as it is. */
    private static long digestOfBusyWith(int n) {
        long h = 31 * 139L + n;
        for (int zero = 0; zero < n * (2 + 2 * n); zero++) {
            h = 31 * h;
        }
        int[] rest = {5, 1, 2, 2, 0, 3, 2, 1, 5, 2, 3, -1, 3, 4, 0, 9, 1, 0, 2, 3, 4, 3, 9, 0, 0, 2, 0, 0, 1, 4, 1, 2};
        for (int number : rest) {
            h = 31 * h + number;
        }
        return h;
    }

    private static HeadTrees crowded() {
        HeadTrees x = Scenes.with(2, 3, 4, 5, 6, 7, 0);
        Scenes.tags(x, 9, 9, 9, 9, 9, 9, 9);
        for (int d = 1; d <= 7; d++) {
            for (int h = 0; h <= 7; h++) {
                x.weight(h, d, 1000 * h + d);
                x.forbid(h, d, true);
            }
        }
        return x;
    }

    private void wordsClearAll() {
        HeadTrees same = crowded();
        edges.due("as many WORDS again", same.words(7), 7);
        edges.dueAlike("as many WORDS again", same, Scenes.words(7));
        HeadTrees fewer = crowded();
        edges.due("fewer WORDS", fewer.words(1), 1);
        edges.due("fewer WORDS, nothing FORBIDDEN", fewer.count(3), 0);
        edges.due("and more again", fewer.words(7), 7);
        edges.dueAlike("and more again", fewer, Scenes.words(7));
    }

    private void tag() {
        edges.promise(3, "tag");
        for (int d : new int[] {1, 7}) {
            HeadTrees x = Scenes.words(7);
            edges.due("the greatest TAG of WORD " + d, x.tag(d, 9), 0);
            edges.due("the same TAG again of WORD " + d, x.tag(d, 9), 9);
            edges.due("the least TAG of WORD " + d, x.tag(d, 0), 9);
            edges.due("what it was of WORD " + d, x.tag(d, 1), 0);
        }
        HeadTrees x = Scenes.words(7);
        Scenes.tags(x, 1, 2, 3, 4, 5, 6, 7);
        edges.due("WORD 4 alone", x.tag(4, 9), 4);
        edges.dueTags("WORD 4 alone", x, 1, 2, 3, 9, 5, 6, 7);
        edges.answers("no TREE at hand", Scenes::circle, y -> y.tag(1, 2), 7);
        HeadTrees kept = Scenes.busy();
        kept.recall(2);
        kept.tag(1, 5);
        kept.recall(2);
        edges.dueTags("KEPT ones keep theirs", kept, 4, 9, 0);
    }

    private void tagRefused() {
        edges.refusesEachAndFar("d is no WORD", Scenes::busy, (x, d) -> x.tag(d, 1), UNKNOWN, 0, 4, 7, 8, -1);
        edges.refuses("THE ROOT's TAG can't be told", Scenes::busy, x -> x.tag(0, 10), UNKNOWN);
        edges.refuses("no WORD 2 beside one", HeadTrees::new, x -> x.tag(2, 1), UNKNOWN);
        edges.refuses("no WORD 8 beside seven", () -> Scenes.words(7), x -> x.tag(8, 1), UNKNOWN);
        edges.refusesEachAndFar("t is OUTSIDE", Scenes::busy, (x, t) -> x.tag(3, t), OUTSIDE, 10, 11, -1);
        edges.refuses("UNKNOWN ahead of OUTSIDE, too large", Scenes::busy, x -> x.tag(4, 10), UNKNOWN);
        edges.refuses("UNKNOWN ahead of OUTSIDE, too small", Scenes::busy, x -> x.tag(0, -1), UNKNOWN);
    }

    private void weight() {
        edges.promise(4, "weight");
        int[][] arcs = {{0, 1}, {0, 7}, {7, 1}, {1, 7}, {6, 7}, {7, 6}};
        for (int[] arc : arcs) {
            String name = " of " + arc[0] + " for " + arc[1];
            HeadTrees x = Scenes.words(7);
            edges.due("the greatest WEIGHT" + name, x.weight(arc[0], arc[1], 1000000), 0);
            edges.due("the same again" + name, x.weight(arc[0], arc[1], 1000000), 1000000);
            edges.due("the least WEIGHT" + name, x.weight(arc[0], arc[1], -1000000), 1000000);
            edges.due("what it was" + name, x.weight(arc[0], arc[1], 0), -1000000);
            edges.dueAlike("0 as at first" + name, x, Scenes.words(7));
        }
        edges.answers("of the one WORD", HeadTrees::new, x -> x.weight(0, 1, 5), 0);
        edges.answers("what is FORBIDDEN has one, too", Scenes::busy, x -> x.weight(1, 3, 5), 0);
        edges.answers("no TREE at hand", Scenes::circle, x -> x.weight(2, 1, 5), 70);
    }

    private void weightsAreApart() {
        HeadTrees x = Scenes.words(7);
        for (int arc = 0; arc < 56; arc++) {
            x.weight(arc % 8, arc / 8 + 1, arc + 1);
        }
        for (int arc = 0; arc < 56; arc++) {
            int h = arc % 8;
            int d = arc / 8 + 1;
            edges.due("each apart, of " + h + " for " + d, x.weighs(h, d), h == d ? NO_WEIGHT : arc + 1);
        }
    }

    private void weightRefused() {
        edges.refusesEachAndFar("h is not 0 to n", Scenes::busy, (x, h) -> x.weight(h, 1, 6), UNKNOWN, -1, 4, 7, 8);
        edges.refusesEachAndFar("d is not 1 to n", Scenes::busy, (x, d) -> x.weight(1, d, 6), UNKNOWN, 0, -1, 4, 7, 8);
        edges.refusesEach("they are alike", Scenes::busy, (x, d) -> x.weight(d, d, 6), UNKNOWN, 0, 1, 2, 3, 4);
        edges.refusesEach("h is not 0 to 7", () -> Scenes.words(7), (x, h) -> x.weight(h, 7, 6), UNKNOWN, -1, 8);
        edges.refusesEach("d is not 1 to 7", () -> Scenes.words(7), (x, d) -> x.weight(7, d, 6), UNKNOWN, 0, 8);
        edges.refusesEach("w is OUTSIDE", Scenes::busy, (x, w) -> x.weight(2, 1, w), OUTSIDE, 1000001, -1000001,
            NO_WEIGHT, Integer.MIN_VALUE, Integer.MAX_VALUE);
        edges.refuses("UNKNOWN ahead of OUTSIDE, h", Scenes::busy, x -> x.weight(4, 1, 1000001), UNKNOWN);
        edges.refuses("UNKNOWN ahead of OUTSIDE, d", Scenes::busy, x -> x.weight(1, 0, -1000001), UNKNOWN);
        edges.refuses("UNKNOWN ahead of OUTSIDE, alike", Scenes::busy, x -> x.weight(1, 1, 1000001), UNKNOWN);
    }

    private void forbid() {
        edges.promise(5, "forbid");
        int[][] arcs = {{0, 1}, {0, 7}, {7, 1}, {1, 7}};
        for (int[] arc : arcs) {
            String name = ", " + arc[0] + " for " + arc[1];
            HeadTrees x = Scenes.words(7);
            edges.due("not FORBIDDEN, made free" + name, x.forbid(arc[0], arc[1], false), 0);
            edges.due("not FORBIDDEN" + name, x.forbid(arc[0], arc[1], true), 0);
            edges.due("FORBIDDEN already" + name, x.forbid(arc[0], arc[1], true), 1);
            edges.due("counted once" + name, x.count(3), 1);
            edges.due("FORBIDDEN, made free" + name, x.forbid(arc[0], arc[1], false), 1);
            edges.due("free again" + name, x.forbid(arc[0], arc[1], false), 0);
            edges.dueAlike("free again" + name, x, Scenes.words(7));
        }
        edges.answers("the only HEAD of the only WORD", HeadTrees::new, x -> x.forbid(0, 1, true), 0);
        HeadTrees x = edges.answers("a HEAD at hand", Scenes::busy, y -> y.forbid(2, 1, true), 0);
        edges.due("a HEAD at hand stays", x.headOf(1), 2);
        edges.due("its WEIGHT stays", x.weighs(2, 1), 70);
        edges.due("the other way is free", x.forbid(1, 2, false), 0);
    }

    private void forbidRefused() {
        for (boolean is : new boolean[] {true, false}) {
            edges.refusesEachAndFar("h is UNKNOWN, " + is, Scenes::busy, (x, h) -> x.forbid(h, 1, is), UNKNOWN,
                -1, 4, 7, 8);
            edges.refusesEachAndFar("d is UNKNOWN, " + is, Scenes::busy, (x, d) -> x.forbid(1, d, is), UNKNOWN,
                0, -1, 4, 7, 8);
            edges.refusesEach("they are alike, " + is, Scenes::busy, (x, d) -> x.forbid(d, d, is), UNKNOWN,
                0, 1, 2, 3, 4);
        }
        edges.refusesEach("h is not 0 to 7", () -> Scenes.words(7), (x, h) -> x.forbid(h, 7, true), UNKNOWN, -1, 8);
        edges.refusesEach("d is not 1 to 7", () -> Scenes.words(7), (x, d) -> x.forbid(7, d, true), UNKNOWN, 0, 8);
    }

    private void weighs() {
        edges.promise(6, "weighs");
        edges.tells("0 at first", () -> Scenes.words(7), x -> x.weighs(7, 1), 0);
        edges.tells("as it is", Scenes::busy, x -> x.weighs(0, 2), -30);
        edges.tells("the other way", Scenes::busy, x -> x.weighs(1, 2), 0);
        for (int w : new int[] {-1000000, -1, 1000000}) {
            HeadTrees x = Scenes.words(7);
            x.weight(6, 7, w);
            x.forbid(6, 7, true);
            edges.due("WEIGHT " + w + ", FORBIDDEN, too", x.weighs(6, 7), w);
        }
        edges.refusesEachAndFar("h is UNKNOWN", Scenes::busy, (x, h) -> x.weighs(h, 1), NO_WEIGHT, -1, 4, 7, 8);
        edges.refusesEachAndFar("d is UNKNOWN", Scenes::busy, (x, d) -> x.weighs(1, d), NO_WEIGHT, 0, -1, 4, 7, 8);
        edges.refusesEach("they are alike", Scenes::busy, (x, d) -> x.weighs(d, d), NO_WEIGHT, 0, 1, 2, 3, 4);
        edges.refusesEach("h is not 0 to 7", () -> Scenes.words(7), (x, h) -> x.weighs(h, 7), NO_WEIGHT, -1, 7, 8);
        edges.refusesEach("d is not 1 to 7", () -> Scenes.words(7), (x, d) -> x.weighs(7, d), NO_WEIGHT, 0, 7, 8);
    }
}
