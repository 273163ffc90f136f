/** Boundary cases of promises 7 to 12: the tree at hand. */
public final class TreeAtHandEdgesTest {
    private static final int NONE = -1;
    private static final int UNKNOWN = -101;
    private static final int OUTSIDE = -102;
    private static final int STATE = -103;

    private final Edges edges = new Edges();

    public static void main(String[] args) {
        TreeAtHandEdgesTest test = new TreeAtHandEdgesTest();
        test.head();
        test.headRefused();
        test.headOf();
        test.isTree();
        test.isSmooth();
        test.isAllowed();
        test.sum();
        test.over();
        test.overRefused();
        test.about();
        test.aboutRefused();
        test.edges.end(7, 12);
    }

    private void head() {
        edges.promise(7, "head");
        HeadTrees x = Scenes.words(7);
        edges.due("the last HEAD of the first WORD", x.head(1, 7), 0);
        edges.due("the same HEAD again", x.head(1, 7), 7);
        edges.due("THE ROOT again", x.head(1, 0), 7);
        edges.due("the HEAD next to it", x.head(1, 2), 0);
        edges.due("the first HEAD of the last WORD", x.head(7, 1), 0);
        edges.due("its neighbour", x.head(7, 6), 1);
        edges.dueHeads("the others stay", x, 2, 0, 0, 0, 0, 0, 6);
        edges.answers("of the one WORD", HeadTrees::new, y -> y.head(1, 0), 0);
        HeadTrees circle = edges.answers("it need be no TREE", Scenes::busy, y -> y.head(2, 1), 0);
        edges.dueHeads("it need be no TREE", circle, 2, 1, 2);
        edges.answers("nor has it been one", Scenes::circle, y -> y.head(2, 3), 1);
        HeadTrees forbidden = edges.answers("a FORBIDDEN HEAD", Scenes::busy, y -> y.head(3, 1), 2);
        edges.due("a FORBIDDEN HEAD", forbidden.headOf(3), 1);
        HeadTrees kept = Scenes.busy();
        kept.recall(2);
        kept.head(3, 0);
        kept.recall(2);
        edges.dueHeads("KEPT ones keep theirs", kept, 0, 1, 2);
    }

    private void headRefused() {
        edges.refusesEachAndFar("d is not 1 to n", Scenes::busy, (x, d) -> x.head(d, 1), UNKNOWN, 0, -1, 4, 7, 8);
        edges.refusesEachAndFar("h is not 0 to n", Scenes::busy, (x, h) -> x.head(1, h), UNKNOWN, -1, 4, 7, 8);
        edges.refusesEach("they are alike", Scenes::busy, (x, d) -> x.head(d, d), UNKNOWN, 0, 1, 2, 3, 4);
        edges.refusesEach("d is not 1 to 7", () -> Scenes.words(7), (x, d) -> x.head(d, 7), UNKNOWN, 0, 8);
        edges.refusesEach("h is not 0 to 7", () -> Scenes.words(7), (x, h) -> x.head(7, h), UNKNOWN, -1, 8);
        edges.refuses("the one WORD has no other HEAD", HeadTrees::new, x -> x.head(1, 2), UNKNOWN);
        edges.refuses("the one WORD is not its own HEAD", HeadTrees::new, x -> x.head(1, 1), UNKNOWN);
    }

    private void headOf() {
        edges.promise(8, "headOf");
        edges.tells("the first WORD", Scenes::busy, x -> x.headOf(1), 2);
        edges.tells("the last WORD", Scenes::busy, x -> x.headOf(3), 2);
        edges.tells("on THE ROOT", Scenes::busy, x -> x.headOf(2), 0);
        edges.tells("no TREE at hand", Scenes::circle, x -> x.headOf(2), 1);
        edges.tells("the seventh WORD", () -> Scenes.with(2, 0, 0, 0, 0, 0, 1), x -> x.headOf(7), 1);
        edges.refusesEachAndFar("no such WORD", Scenes::busy, HeadTrees::headOf, NONE, 0, -1, 4, 7, 8);
        edges.refusesEach("no such WORD of seven", () -> Scenes.words(7), HeadTrees::headOf, NONE, 0, 8);
    }

    private void dueKind(String edge, int want, int... heads) {
        edges.tells(edge, () -> Scenes.with(heads), HeadTrees::is, want);
    }

    private void isTree() {
        edges.promise(9, "is");
        dueKind("one WORD", 6, 0);
        dueKind("seven WORDS on THE ROOT", 6, 0, 0, 0, 0, 0, 0, 0);
        dueKind("the longest way to THE ROOT, to the front", 6, 0, 1, 2, 3, 4, 5, 6);
        dueKind("the longest way to THE ROOT, to the back", 6, 2, 3, 4, 5, 6, 7, 0);
        dueKind("the longest way to THE ROOT, to and fro", 5, 3, 5, 2, 7, 6, 4, 0);
        dueKind("the shortest circle", 4, 2, 1);
        dueKind("a circle beside a WORD on THE ROOT", 4, 0, 3, 2);
        dueKind("a circle of the first and the last WORD", 4, 7, 0, 0, 0, 0, 0, 1);
        dueKind("a WORD that hangs on a circle", 4, 2, 1, 2);
        dueKind("the longest circle", 4, 2, 3, 4, 5, 6, 7, 1);
        dueKind("a circle of all but the first", 4, 0, 3, 4, 5, 6, 7, 2);
    }

    private void isSmooth() {
        dueKind("no WORD between", 6, 2, 0, 2);
        dueKind("one WORD between, on THE ROOT, HEAD ahead", 5, 0, 0, 1);
        dueKind("one WORD between, on THE ROOT, HEAD behind", 5, 3, 0, 0);
        dueKind("one WORD between, below WORD and HEAD", 6, 3, 1, 0);
        dueKind("one WORD between, below the HEAD", 6, 0, 1, 1);
        dueKind("one WORD between that is over the HEAD", 5, 3, 0, 2);
        dueKind("the WORD between next to the HEAD hangs elsewhere", 5, 4, 1, 0, 0);
        dueKind("the WORD between next to the WORD hangs elsewhere", 5, 4, 0, 4, 0);
        dueKind("from the last to the first, all between below", 6, 7, 1, 2, 3, 4, 5, 0);
        dueKind("from the first to the last, all between below", 6, 0, 1, 1, 1, 1, 1, 1);
        dueKind("from the first to the last, none between below", 5, 0, 0, 0, 0, 0, 0, 1);
        dueKind("THE ROOT's own line reaches over all", 6, 7, 7, 7, 7, 7, 7, 0);
        dueKind("two lines cross, neither being THE ROOT's", 5, 3, 4, 0, 3);
    }

    private void dueForbidden(String edge, int want, int h, int d, int... heads) {
        edges.tells(edge, () -> {
            HeadTrees x = Scenes.with(heads);
            x.forbid(h, d, true);
            return x;
        }, HeadTrees::is, want);
    }

    private void isAllowed() {
        dueForbidden("the first WORD's HEAD is FORBIDDEN", 2, 0, 1, 0, 1, 2);
        dueForbidden("the last WORD's HEAD is FORBIDDEN", 2, 2, 3, 0, 1, 2);
        dueForbidden("not SMOOTH, and FORBIDDEN", 1, 1, 3, 0, 0, 1);
        dueForbidden("no TREE, and FORBIDDEN", 0, 2, 1, 2, 1);
        dueForbidden("no TREE, FORBIDDEN off the circle", 0, 0, 1, 0, 3, 2);
        dueForbidden("no TREE, with 4: nothing of it is FORBIDDEN", 4, 0, 1, 2, 1);
        dueForbidden("the other way is FORBIDDEN", 6, 2, 1, 0, 1, 2);
        dueForbidden("another HEAD is FORBIDDEN", 6, 3, 1, 0, 1, 2);
        dueForbidden("the only HEAD is FORBIDDEN", 2, 0, 1, 0);
        dueForbidden("the seventh WORD's HEAD is FORBIDDEN", 2, 6, 7, 0, 1, 2, 3, 4, 5, 6);
    }

    private static HeadTrees weighed(int w, int... heads) {
        HeadTrees x = Scenes.with(heads);
        for (int d = 1; d <= heads.length; d++) {
            x.weight(heads[d - 1], d, w);
        }
        return x;
    }

    private void sum() {
        edges.promise(10, "sum");
        edges.tells("a new object", HeadTrees::new, HeadTrees::sum, 0);
        for (int w : new int[] {1000000, 1, -1, -1000000}) {
            edges.tells("one WORD of " + w, () -> weighed(w, 0), HeadTrees::sum, w);
            edges.tells("seven times " + w, () -> weighed(w, 0, 0, 0, 0, 0, 0, 0), HeadTrees::sum, 7L * w);
            edges.tells("seven times " + w + ", greatest HEADS", () -> weighed(w, 7, 7, 7, 7, 7, 7, 0),
                HeadTrees::sum, 7L * w);
            edges.tells("no TREE, seven times " + w, () -> weighed(w, 7, 7, 7, 7, 7, 7, 6), HeadTrees::sum, 7L * w);
        }
        edges.tells("the WEIGHTS of its HEADS alone", Scenes::busy, HeadTrees::sum, 45);
        edges.tells("no TREE at hand", Scenes::circle, HeadTrees::sum, 75);
        edges.tells("FORBIDDEN ones, too", () -> {
            HeadTrees x = weighed(7, 0, 1);
            x.forbid(0, 1, true);
            return x;
        }, HeadTrees::sum, 14);
        edges.tells("greatest and least", () -> {
            HeadTrees x = weighed(1000000, 0, 1);
            x.weight(0, 1, -1000000);
            return x;
        }, HeadTrees::sum, 0);
    }

    private void over() {
        edges.promise(11, "over");
        edges.tells("THE ROOT over the one WORD", HeadTrees::new, x -> x.over(0, 1), 1);
        edges.tells("the one WORD, b being a", HeadTrees::new, x -> x.over(1, 1), 0);
        edges.tells("THE ROOT over a WORD on it", Scenes::busy, x -> x.over(0, 2), 1);
        edges.tells("THE ROOT over a WORD below others", Scenes::busy, x -> x.over(0, 3), 1);
        edges.tells("a HEAD over its WORD", Scenes::busy, x -> x.over(2, 3), 1);
        edges.tells("a WORD is not over its HEAD", Scenes::busy, x -> x.over(3, 2), 0);
        edges.tells("two on the same HEAD", Scenes::busy, x -> x.over(1, 3), 0);
        edges.tells("b is a", Scenes::busy, x -> x.over(2, 2), 0);
        edges.tells("the longest way", () -> Scenes.with(0, 1, 2, 3, 4, 5, 6), x -> x.over(1, 7), 1);
        edges.tells("the longest way, to THE ROOT", () -> Scenes.with(0, 1, 2, 3, 4, 5, 6), x -> x.over(0, 7), 1);
        edges.tells("the longest way, other way", () -> Scenes.with(0, 1, 2, 3, 4, 5, 6), x -> x.over(7, 1), 0);
        edges.tells("a TREE that is not SMOOTH", () -> Scenes.with(3, 0, 2), x -> x.over(2, 1), 1);
        edges.tells("a TREE that is not ALLOWED", () -> {
            HeadTrees x = Scenes.with(2, 0);
            x.forbid(2, 1, true);
            return x;
        }, x -> x.over(2, 1), 1);
    }

    private void overRefused() {
        edges.refusesEachAndFar("a is not 0 to n", Scenes::busy, (x, a) -> x.over(a, 1), UNKNOWN, -1, 4, 7, 8);
        edges.refusesEachAndFar("b is not 1 to n", Scenes::busy, (x, b) -> x.over(1, b), UNKNOWN, 0, -1, 4, 7, 8);
        edges.refusesEach("a is not 0 to 7", () -> Scenes.words(7), (x, a) -> x.over(a, 7), UNKNOWN, -1, 8);
        edges.refusesEach("b is not 1 to 7", () -> Scenes.words(7), (x, b) -> x.over(7, b), UNKNOWN, 0, 8);
        edges.refuses("THE ROOT over THE ROOT", Scenes::busy, x -> x.over(0, 0), UNKNOWN);
        edges.refuses("no TREE", Scenes::circle, x -> x.over(2, 1), STATE);
        edges.refuses("no TREE, THE ROOT", Scenes::circle, x -> x.over(0, 3), STATE);
        edges.refuses("no TREE, b is a", Scenes::circle, x -> x.over(1, 1), STATE);
        edges.refuses("no TREE, a WORD off the circle", () -> Scenes.with(0, 3, 2), x -> x.over(0, 1), STATE);
        edges.refuses("UNKNOWN ahead of STATE, a", Scenes::circle, x -> x.over(4, 1), UNKNOWN);
        edges.refuses("UNKNOWN ahead of STATE, b", Scenes::circle, x -> x.over(1, 0), UNKNOWN);
    }

    private void dueAbout(String edge, int d, int[] want, int... heads) {
        for (int what = 0; what <= 3; what++) {
            int number = what;
            edges.tells(edge + ", what = " + what, () -> Scenes.with(heads), x -> x.about(d, number), want[what]);
        }
    }

    private void about() {
        edges.promise(12, "about");
        dueAbout("the one WORD", 1, new int[] {0, 0, 1, 1}, 0);
        dueAbout("nothing between it and THE ROOT, over all", 4, new int[] {0, 6, 1, 7}, 4, 4, 4, 0, 4, 4, 4);
        dueAbout("over none", 7, new int[] {1, 0, 7, 7}, 4, 4, 4, 0, 4, 4, 4);
        dueAbout("over none, the first WORD", 1, new int[] {1, 0, 1, 1}, 4, 4, 4, 0, 4, 4, 4);
        dueAbout("over its neighbours alone", 4, new int[] {0, 2, 3, 5}, 0, 0, 4, 0, 4, 0, 0);
        dueAbout("others stand between", 4, new int[] {0, 2, 2, 6}, 0, 4, 0, 0, 0, 4, 0);
        dueAbout("the most HEADS between", 7, new int[] {6, 0, 7, 7}, 0, 1, 2, 3, 4, 5, 6);
        dueAbout("over all, the first of them itself", 1, new int[] {0, 6, 1, 7}, 0, 1, 2, 3, 4, 5, 6);
        dueAbout("over all, the last of them itself", 7, new int[] {0, 6, 1, 7}, 2, 3, 4, 5, 6, 7, 0);
        dueAbout("the first stands ahead, the last is itself", 3, new int[] {1, 1, 1, 3}, 3, 0, 2);
        dueAbout("the last stands behind, the first is itself", 1, new int[] {1, 1, 1, 3}, 2, 0, 1);
        dueAbout("below it by others", 2, new int[] {0, 3, 1, 4}, 4, 0, 2, 3);
    }

    private void aboutRefused() {
        edges.refusesEachAndFar("d is no WORD", Scenes::busy, (x, d) -> x.about(d, 0), UNKNOWN, 0, -1, 4, 7, 8);
        edges.refusesEach("d is no WORD of seven", () -> Scenes.words(7), (x, d) -> x.about(d, 3), UNKNOWN, 0, 8);
        edges.refusesEachAndFar("what is OUTSIDE", Scenes::busy, (x, what) -> x.about(1, what), OUTSIDE, -1, 4);
        edges.refusesEach("no TREE, what", Scenes::circle, (x, what) -> x.about(3, what), STATE, 0, 1, 2, 3);
        edges.refuses("no TREE, a WORD off the circle", () -> Scenes.with(0, 3, 2), x -> x.about(1, 0), STATE);
        edges.refuses("UNKNOWN ahead of OUTSIDE", Scenes::busy, x -> x.about(4, 4), UNKNOWN);
        edges.refuses("UNKNOWN ahead of STATE", Scenes::circle, x -> x.about(0, 0), UNKNOWN);
        edges.refuses("OUTSIDE ahead of STATE, too large", Scenes::circle, x -> x.about(1, 4), OUTSIDE);
        edges.refuses("OUTSIDE ahead of STATE, too small", Scenes::circle, x -> x.about(1, -1), OUTSIDE);
        edges.refuses("UNKNOWN ahead of both", Scenes::circle, x -> x.about(4, -1), UNKNOWN);
    }
}
