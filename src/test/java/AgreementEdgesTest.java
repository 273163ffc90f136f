/** Boundary cases of promises 25 and 26: agreement. */
public final class AgreementEdgesTest {
    private static final int NONE = -1;
    private static final int UNKNOWN = -101;
    private static final int STATE = -103;

    /** agree() or near(). */
    private interface Compared {
        long on(HeadTrees x, int k, int l);
    }

    private final Edges edges = new Edges();

    public static void main(String[] args) {
        AgreementEdgesTest test = new AgreementEdgesTest();
        test.agree();
        test.refused(HeadTrees::agree);
        test.near();
        test.refused(HeadTrees::near);
        test.edges.end(25, 26);
    }

    /** The first one kept, the other at hand. */
    private static HeadTrees two(int[] kept, int... heads) {
        HeadTrees x = Scenes.with(kept);
        x.keep();
        Scenes.draw(x, heads);
        return x;
    }

    /** Both ways round, and of two kept ones. */
    private void due(String edge, Compared how, int want, int[] kept, int... heads) {
        edges.tells(edge, () -> two(kept, heads), x -> how.on(x, 0, NONE), want);
        edges.tells(edge + ", the other way", () -> two(kept, heads), x -> how.on(x, NONE, 0), want);
        edges.tells(edge + ", both KEPT", () -> {
            HeadTrees x = two(kept, heads);
            x.keep();
            return x;
        }, x -> how.on(x, 0, 1), want);
    }

    private void agree() {
        edges.promise(25, "agree");
        int[] chain = {0, 1, 2, 3, 4, 5, 6};
        due("one WORD", HeadTrees::agree, 1, new int[] {0}, 0);
        due("in no WORD", HeadTrees::agree, 0, new int[] {0, 1}, 2, 0);
        due("in no WORD of seven", HeadTrees::agree, 0, chain, 2, 3, 4, 5, 6, 7, 0);
        due("in all WORDS", HeadTrees::agree, 7, chain, chain);
        due("in the first WORD alone", HeadTrees::agree, 1, chain, 0, 3, 1, 1, 1, 1, 1);
        due("in all but the last WORD", HeadTrees::agree, 6, chain, 0, 1, 2, 3, 4, 5, 5);
        edges.tells("THE TREE at hand with itself", Scenes::busy, x -> x.agree(NONE, NONE), 3);
        edges.tells("a KEPT one with itself", Scenes::busy, x -> x.agree(0, 0), 5);
        edges.tells("two KEPT ones, no TREE at hand", Scenes::circle, x -> x.agree(2, 3), 1);
        edges.tells("TAGS do not count", Scenes::busy, x -> x.agree(NONE, 3), 2);
        edges.tells("the first and the last of 20", Scenes::fullOfKept, x -> x.agree(19, 2), 1);
    }

    private void near() {
        edges.promise(26, "near");
        int[] chain = {0, 1, 2, 3, 4, 5, 6};
        int[] flat = {0, 0, 0, 0, 0, 0, 0};
        due("no pair of one WORD", HeadTrees::near, 0, new int[] {0}, 0);
        due("one pair, in both none is over the other", HeadTrees::near, 1, new int[] {0, 0}, 0, 0);
        due("one pair, the same way", HeadTrees::near, 1, new int[] {0, 1}, 0, 1);
        due("one pair, the other way", HeadTrees::near, 0, new int[] {0, 1}, 2, 0);
        due("one pair, in one of them alone", HeadTrees::near, 0, new int[] {0, 1}, 0, 0);
        due("all pairs, each over others", HeadTrees::near, 21, chain, chain);
        due("all pairs, none over others", HeadTrees::near, 21, flat, flat);
        due("no pair, the other way each", HeadTrees::near, 0, chain, 2, 3, 4, 5, 6, 7, 0);
        due("no pair, in one of them alone", HeadTrees::near, 0, chain, flat);
        due("all but the last pair", HeadTrees::near, 20, chain, 0, 1, 2, 3, 4, 5, 5);
        due("the first pair the other way", HeadTrees::near, 20, chain, 2, 0, 1, 3, 4, 5, 6);
        edges.tells("THE TREE at hand with itself", Scenes::busy, x -> x.near(NONE, NONE), 3);
        edges.tells("a KEPT one with itself", Scenes::busy, x -> x.near(0, 0), 10);
        edges.tells("two KEPT ones, no TREE at hand", Scenes::circle, x -> x.near(2, 3), 1);
        edges.tells("the first and the last of 20", Scenes::fullOfKept, x -> x.near(19, 2), 1);
    }

    private void refused(Compared how) {
        edges.refusesEachAndFar("UNKNOWN: k", Scenes::busy, (x, k) -> how.on(x, k, 0), UNKNOWN, -2, 4, 19, 20);
        edges.refusesEachAndFar("UNKNOWN: l", Scenes::busy, (x, l) -> how.on(x, 0, l), UNKNOWN, -2, 4, 19, 20);
        edges.refusesEachAndFar("UNKNOWN: k, at hand", Scenes::busy, (x, k) -> how.on(x, k, NONE), UNKNOWN, 4);
        edges.refusesEachAndFar("UNKNOWN: both", Scenes::busy, (x, k) -> how.on(x, k, k), UNKNOWN, -2, 1, 4, 20);
        edges.refuses("k is gone", Scenes::busy, x -> how.on(x, 1, 2), UNKNOWN);
        edges.refuses("l is gone", Scenes::busy, x -> how.on(x, 2, 1), UNKNOWN);
        edges.refuses("none KEPT", HeadTrees::new, x -> how.on(x, 0, NONE), UNKNOWN);
        edges.refuses("no TREE at hand, k", Scenes::circle, x -> how.on(x, NONE, 2), STATE);
        edges.refuses("no TREE at hand, l", Scenes::circle, x -> how.on(x, 2, NONE), STATE);
        edges.refuses("no TREE at hand, both", Scenes::circle, x -> how.on(x, NONE, NONE), STATE);
        edges.refuses("more WORDS", Scenes::busy, x -> how.on(x, 0, 2), STATE);
        edges.refuses("fewer WORDS", Scenes::busy, x -> how.on(x, 3, 0), STATE);
        edges.refuses("more WORDS than at hand", Scenes::busy, x -> how.on(x, NONE, 0), STATE);
        edges.refuses("one WORD more", () -> {
            HeadTrees x = two(new int[6], new int[6]);
            x.words(7);
            return x;
        }, x -> how.on(x, NONE, 0), STATE);
        edges.refuses("UNKNOWN ahead of no TREE, k", Scenes::circle, x -> how.on(x, 4, NONE), UNKNOWN);
        edges.refuses("UNKNOWN ahead of no TREE, l", Scenes::circle, x -> how.on(x, NONE, 1), UNKNOWN);
    }
}
