import java.util.Arrays;
import java.util.HashSet;
import java.util.Set;

/** Boundary cases of promises 13 to 15: best trees. */
public final class BestTreesEdgesTest {
    private static final int NONE = -1;
    private static final int OUTSIDE = -102;
    private static final int NO_TREE = -100000000;
    private static final int NO_SUCH_RANK = -100000001;

    private final Edges edges = new Edges();

    public static void main(String[] args) {
        BestTreesEdgesTest test = new BestTreesEdgesTest();
        test.bestAtTheLastRanks();
        test.bestOfNone();
        test.bestOfLikeSums();
        test.bestOfExtremeSums();
        test.bestChangesHeadsAlone();
        test.bestEachOnce();
        test.bestBehindOtherSearches();
        test.bestRefused();
        test.trees();
        test.treesBehindOtherSearches();
        test.treesRefused();
        test.rank();
        test.rankOfOthers();
        test.rankBehindOtherSearches();
        test.rankRefused();
        test.edges.end(13, 15);
    }

    /** Every head but those of a tree is forbidden. */
    private static HeadTrees only(int... heads) {
        HeadTrees x = Scenes.words(heads.length);
        for (int d = 1; d <= heads.length; d++) {
            for (int h = 0; h <= heads.length; h++) {
                x.forbid(h, d, h != heads[d - 1]);
            }
        }
        return x;
    }

    /** As many words as the busy scene, but none may hang on the root. */
    private static HeadTrees rootless() {
        HeadTrees x = Scenes.busy();
        for (int d = 1; d <= 3; d++) {
            x.forbid(0, d, true);
        }
        return x;
    }

    private void dueBest(String edge, HeadTrees x, int sort, int k, int sum, int... heads) {
        String name = edge + ", best(" + sort + ", " + k + ")";
        edges.due(name, x.best(sort, k), sum);
        edges.dueHeads(name, x, heads);
    }

    private void bestAtTheLastRanks() {
        edges.promise(13, "best");
        for (int sort = 0; sort <= 1; sort++) {
            dueBest("the only TREE of one WORD", new HeadTrees(), sort, 0, 0, 0);
            dueBest("the only TREE of seven WORDS", only(2, 3, 4, 5, 6, 7, 0), sort, 0, 0, 2, 3, 4, 5, 6, 7, 0);
            dueBest("the first TREE of seven WORDS", Scenes.words(7), sort, 0, 0, 0, 0, 0, 0, 0, 0, 0);
        }
        dueBest("the last RANK, 30", Scenes.words(4), 0, 30, 0, 0, 3, 0, 0);
        dueBest("the last RANK, 30", Scenes.words(4), 1, 30, 0, 2, 0, 0, 0);
        dueBest("RANK 29", Scenes.words(4), 0, 29, 0, 0, 1, 4, 2);
        dueBest("RANK 29", Scenes.words(4), 1, 29, 0, 0, 4, 4, 1);
        dueBest("the last TREE that there is", Scenes.words(3), 0, 15, 0, 3, 3, 0);
        dueBest("the last TREE that there is", Scenes.words(3), 1, 11, 0, 3, 3, 0);
        dueBest("the last TREE that there is", Scenes.words(2), 0, 2, 0, 2, 0);
        dueBest("the last TREE that there is", Scenes.words(2), 1, 2, 0, 2, 0);
        dueBest("it was no TREE at hand", Scenes.with(2, 3, 1), 0, 0, 0, 0, 0, 0);
    }

    private void bestOfNone() {
        for (int sort = 0; sort <= 1; sort++) {
            int which = sort;
            String name = ", SORT " + sort;
            edges.refusesEach("one TREE alone" + name, HeadTrees::new, (x, k) -> x.best(which, k), NO_TREE, 1, 2, 30);
            edges.refusesEach("three TREES alone" + name, () -> Scenes.with(2, 0), (x, k) -> x.best(which, k), NO_TREE,
                3, 4, 30);
            edges.refuses("none ALLOWED" + name, BestTreesEdgesTest::rootless, x -> x.best(which, 0), NO_TREE);
            edges.refuses("none ALLOWED, none at hand" + name, () -> only(2, 1), x -> x.best(which, 0), NO_TREE);
            edges.refuses("no HEAD for the last WORD" + name, () -> {
                HeadTrees x = only(0, 1, 2);
                x.forbid(2, 3, true);
                return x;
            }, x -> x.best(which, 0), NO_TREE);
        }
        edges.refuses("one TREE too far", () -> Scenes.with(0, 1, 2), x -> x.best(0, 16), NO_TREE);
        edges.refuses("one SMOOTH TREE too far", () -> Scenes.with(0, 1, 2), x -> x.best(1, 12), NO_TREE);
        edges.refuses("none SMOOTH", () -> only(3, 0, 0), x -> x.best(1, 0), NO_TREE);
        dueBest("none SMOOTH, but one of all", only(3, 0, 0), 0, 0, 0, 3, 0, 0);
    }

    private void bestOfLikeSums() {
        for (int sort = 0; sort <= 1; sort++) {
            HeadTrees x = Scenes.words(2);
            x.weight(2, 1, 5);
            x.weight(1, 2, 5);
            dueBest("like SUMS, the least HEAD of WORD 1", x, sort, 0, 5, 0, 1);
            dueBest("like SUMS, the greater HEAD of WORD 1", x, sort, 1, 5, 2, 0);
            dueBest("the lesser SUM", x, sort, 2, 0, 0, 0);
            HeadTrees one = Scenes.words(2);
            one.weight(2, 1, 1);
            dueBest("a SUM greater by one", one, sort, 0, 1, 2, 0);
            dueBest("a SUM less by one", one, sort, 1, 0, 0, 0);
        }
        dueBest("like SUMS, least HEAD of WORD 7", Scenes.words(7), 0, 1, 0, 0, 0, 0, 0, 0, 0, 1);
        dueBest("like SUMS, greatest HEAD of WORD 7", Scenes.words(7), 0, 6, 0, 0, 0, 0, 0, 0, 0, 6);
        dueBest("like SUMS, then of WORD 6", Scenes.words(7), 0, 7, 0, 0, 0, 0, 0, 0, 1, 0);
        dueBest("like SUMS, least HEAD of WORD 7", Scenes.words(7), 1, 1, 0, 0, 0, 0, 0, 0, 0, 6);
        dueBest("like SUMS, then of WORD 6", Scenes.words(7), 1, 2, 0, 0, 0, 0, 0, 0, 5, 0);
    }

    private static HeadTrees weighed(int all) {
        HeadTrees x = Scenes.words(7);
        for (int d = 1; d <= 7; d++) {
            for (int h = 0; h <= 7; h++) {
                x.weight(h, d, all);
            }
        }
        return x;
    }

    private void bestOfExtremeSums() {
        for (int sort = 0; sort <= 1; sort++) {
            for (int w : new int[] {-1000000, -1, 1000000}) {
                HeadTrees x = weighed(w);
                edges.due("all WEIGHTS " + w + ", RANK 0", x.best(sort, 0), 7 * w);
                edges.dueHeads("all WEIGHTS " + w + ", RANK 0", x, 0, 0, 0, 0, 0, 0, 0);
                edges.due("all WEIGHTS " + w + ", RANK 30", x.best(sort, 30), 7 * w);
            }
            HeadTrees x = weighed(-1000000);
            for (int d = 1; d <= 7; d++) {
                x.weight(d % 7 + 1, d, 1000000);
            }
            x.weight(0, 7, -999999);
            dueBest("a circle weighs most", x, sort, 0, 5000001, 2, 3, 4, 5, 6, 7, 0);
        }
        HeadTrees least = only(0, 1);
        least.weight(0, 1, -1000000);
        least.weight(2, 1, 1000000);
        least.weight(0, 2, 1000000);
        dueBest("the best is FORBIDDEN", least, 0, 0, -1000000, 0, 1);
    }

    private void bestChangesHeadsAlone() {
        HeadTrees x = edges.answers("a busy object", Scenes::busy, y -> y.best(0, 0), 70);
        HeadTrees drawn = Scenes.busy();
        Scenes.draw(drawn, 2, 3, 0);
        edges.dueAlike("HEADS alone", x, drawn);
        HeadTrees circle = edges.answers("it was no TREE at hand", Scenes::circle, y -> y.best(1, 1), 70);
        HeadTrees second = Scenes.busy();
        Scenes.draw(second, 3, 1, 0);
        edges.dueAlike("it was no TREE at hand", circle, second);
    }

    private void bestEachOnce() {
        for (int sort = 0; sort <= 1; sort++) {
            HeadTrees x = Scenes.words(5);
            Set<String> seen = new HashSet<>();
            int before = Integer.MAX_VALUE;
            x.weight(1, 2, 3);
            x.weight(2, 1, 3);
            x.weight(4, 5, 3);
            for (int k = 0; k <= 30; k++) {
                int sum = x.best(sort, k);
                edges.due("no SUM grows, RANK " + k, sum <= before ? 1 : 0, 1);
                before = sum;
                int[] heads = {x.headOf(1), x.headOf(2), x.headOf(3), x.headOf(4), x.headOf(5)};
                edges.due("each once, RANK " + k, seen.add(Arrays.toString(heads)) ? 1 : 0, 1);
            }
        }
    }

    /** What an earlier search has found is of no use when the sentence or what is told of it has changed. */
    private void bestBehindOtherSearches() {
        for (int sort = 0; sort <= 1; sort++) {
            HeadTrees x = weighed(1000000);
            edges.due("behind nothing", x.best(sort, 30), 7000000);
            edges.due("behind the same, the other SORT", x.best(1 - sort, 30), 7000000);
            x.words(4);
            dueBest("behind a longer SENTENCE", x, 0, 30, 0, 0, 3, 0, 0);
            dueBest("behind a longer SENTENCE", x, 1, 30, 0, 2, 0, 0, 0);
            x.weight(0, 1, -1);
            x.weight(0, 2, -1);
            dueBest("behind a lesser WEIGHT", x, sort, 0, 0, 2, 3, 0, 0);
            x.weight(0, 3, -1);
            dueBest("behind a lesser WEIGHT again", x, sort, 0, 0, 2, 3, 4, 0);
            x.forbid(2, 1, true);
            dueBest("behind what is FORBIDDEN", x, sort, 0, 0, 3, 1, 4, 0);
            x.forbid(2, 1, false);
            dueBest("behind what is free again", x, sort, 0, 0, 2, 3, 4, 0);
            edges.due("RANK 30 behind RANK 0", x.best(sort, 30), -1);
            dueBest("RANK 0 behind RANK 30", x, sort, 0, 0, 2, 3, 4, 0);
            x.words(1);
            dueBest("behind more WORDS", x, sort, 0, 0, 0);
            edges.due("behind more WORDS, none", x.best(sort, 1), NO_TREE);
        }
    }

    private void bestRefused() {
        for (int sort = 0; sort <= 1; sort++) {
            int which = sort;
            edges.refusesEachAndFar("k is OUTSIDE, SORT " + sort, Scenes::busy, (x, k) -> x.best(which, k),
                NO_SUCH_RANK, 31, 32, -1);
            edges.refusesEach("k is OUTSIDE, many TREES, SORT " + sort, () -> Scenes.words(7),
                (x, k) -> x.best(which, k), NO_SUCH_RANK, 31, -1);
            edges.refusesEach("OUTSIDE ahead of none, k, SORT " + sort, BestTreesEdgesTest::rootless,
                (x, k) -> x.best(which, k), NO_SUCH_RANK, 31, -1);
        }
        edges.refusesEachAndFar("sort is OUTSIDE", Scenes::busy, (x, sort) -> x.best(sort, 0), NO_SUCH_RANK, 2, 3, -1);
        edges.refusesEach("OUTSIDE ahead of none, sort", BestTreesEdgesTest::rootless, (x, sort) -> x.best(sort, 0),
            NO_SUCH_RANK, 2, -1);
        edges.refuses("both OUTSIDE", Scenes::busy, x -> x.best(2, 31), NO_SUCH_RANK);
    }

    private void trees() {
        edges.promise(14, "trees");
        edges.tells("one WORD", HeadTrees::new, x -> x.trees(0), 1);
        edges.tells("one WORD, SMOOTH", HeadTrees::new, x -> x.trees(1), 1);
        edges.tells("seven WORDS", () -> Scenes.words(7), x -> x.trees(0), 262144);
        edges.tells("seven WORDS, SMOOTH", () -> Scenes.words(7), x -> x.trees(1), 7752);
        edges.tells("seven WORDS, WEIGHTS count for nothing", () -> weighed(-1000000), x -> x.trees(0), 262144);
        for (int sort = 0; sort <= 1; sort++) {
            int which = sort;
            String name = ", SORT " + sort;
            edges.tells("none ALLOWED" + name, BestTreesEdgesTest::rootless, x -> x.trees(which), 0);
            edges.tells("one ALLOWED" + name, () -> only(2, 3, 4, 5, 6, 7, 0), x -> x.trees(which), 1);
            edges.tells("a circle alone ALLOWED" + name, () -> only(2, 1), x -> x.trees(which), 0);
            edges.tells("a circle ahead of a TREE" + name, () -> only(2, 1, 0), x -> x.trees(which), 0);
            edges.tells("a circle behind a TREE" + name, () -> only(0, 3, 2), x -> x.trees(which), 0);
            edges.tells("the one WORD's HEAD is FORBIDDEN" + name, () -> only(-1), x -> x.trees(which), 0);
            edges.tells("the last of seven has no HEAD" + name, () -> only(0, 0, 0, 0, 0, 0, -1), x -> x.trees(which),
                0);
            edges.tells("the first of seven has no HEAD" + name, () -> only(-1, 0, 0, 0, 0, 0, 0), x -> x.trees(which),
                0);
        }
        edges.tells("one ALLOWED that is not SMOOTH", () -> only(3, 0, 0), x -> x.trees(0), 1);
        edges.tells("one ALLOWED that is not SMOOTH, SORT 1", () -> only(3, 0, 0), x -> x.trees(1), 0);
        edges.tells("no TREE at hand", Scenes::circle, x -> x.trees(0), 12);
        edges.tells("no TREE at hand, SORT 1", Scenes::circle, x -> x.trees(1), 10);
    }

    private void treesBehindOtherSearches() {
        HeadTrees x = weighed(1);
        x.best(0, 30);
        x.best(1, 30);
        edges.due("behind best()", x.trees(0), 262144);
        edges.due("behind best(), SORT 1", x.trees(1), 7752);
        x.words(3);
        edges.due("behind a longer SENTENCE", x.trees(0), 16);
        edges.due("behind a longer SENTENCE, SORT 1", x.trees(1), 12);
        x.forbid(1, 3, true);
        edges.due("behind what is FORBIDDEN", x.trees(0), 12);
        edges.due("behind what is FORBIDDEN, SORT 1", x.trees(1), 10);
        x.forbid(1, 3, false);
        edges.due("behind what is free again", x.trees(0), 16);
        edges.due("behind what is free again, SORT 1", x.trees(1), 12);
    }

    private void treesRefused() {
        edges.refusesEachAndFar("sort is OUTSIDE", Scenes::busy, HeadTrees::trees, OUTSIDE, -1, 2, 3);
        edges.refusesEach("sort is OUTSIDE, no TREE at hand", Scenes::circle, HeadTrees::trees, OUTSIDE, -1, 2);
        edges.refusesEach("sort is OUTSIDE, none ALLOWED", BestTreesEdgesTest::rootless, HeadTrees::trees, OUTSIDE,
            -1, 2);
    }

    private void dueRank(String edge, int sort, int want, int... heads) {
        edges.tells(edge + ", SORT " + sort, () -> Scenes.with(heads), x -> x.rank(sort), want);
    }

    private void rank() {
        edges.promise(15, "rank");
        for (int sort = 0; sort <= 1; sort++) {
            dueRank("the only TREE", sort, 0, 0);
            dueRank("the first of many", sort, 0, 0, 0, 0, 0, 0, 0, 0);
            dueRank("the last of three", sort, 2, 2, 0);
            dueRank("the last of all seven WORDS'", sort, NONE, 7, 7, 7, 7, 7, 7, 0);
        }
        dueRank("the second", 0, 1, 0, 0, 0, 1);
        dueRank("RANK 29", 0, 29, 0, 1, 4, 2);
        dueRank("the last of the first 31", 0, 30, 0, 3, 0, 0);
        dueRank("the first behind these", 0, NONE, 0, 3, 0, 1);
        dueRank("RANK 29", 1, 29, 0, 4, 4, 1);
        dueRank("the last of the first 31", 1, 30, 2, 0, 0, 0);
        dueRank("the first behind these", 1, NONE, 2, 0, 0, 3);
        dueRank("the last of sixteen", 0, 15, 3, 3, 0);
        dueRank("the last of twelve", 1, 11, 3, 3, 0);
    }

    private void rankOfOthers() {
        for (int sort = 0; sort <= 1; sort++) {
            int which = sort;
            dueRank("no TREE", sort, NONE, 2, 1);
            dueRank("no TREE, a circle beside THE ROOT", sort, NONE, 0, 3, 2);
            edges.tells("no TREE of a busy object, SORT " + sort, Scenes::circle, x -> x.rank(which), NONE);
            edges.tells("not ALLOWED, SORT " + sort, () -> {
                HeadTrees x = Scenes.with(0, 1);
                x.forbid(1, 2, true);
                return x;
            }, x -> x.rank(which), NONE);
            edges.tells("the one behind what is FORBIDDEN, SORT " + sort, () -> {
                HeadTrees x = Scenes.with(2, 0);
                x.forbid(1, 2, true);
                return x;
            }, x -> x.rank(which), 1);
            edges.tells("none ALLOWED, SORT " + sort, BestTreesEdgesTest::rootless, x -> x.rank(which), NONE);
            edges.tells("the least SUM of all, SORT " + sort, () -> {
                HeadTrees x = Scenes.words(3);
                x.weight(0, 1, -1000000);
                return x;
            }, x -> x.rank(which), sort == 0 ? 8 : 5);
        }
        dueRank("not SMOOTH, among all", 0, 12, 3, 0, 0);
        dueRank("not SMOOTH", 1, NONE, 3, 0, 0);
    }

    private void rankBehindOtherSearches() {
        HeadTrees x = weighed(1000000);
        x.best(0, 30);
        edges.due("behind best()", x.rank(0), 30);
        x.best(1, 30);
        edges.due("behind best(), SORT 1", x.rank(1), 30);
        x.words(3);
        Scenes.draw(x, 3, 3, 0);
        edges.due("behind a longer SENTENCE", x.rank(0), 15);
        edges.due("behind a longer SENTENCE, SORT 1", x.rank(1), 11);
        x.weight(3, 1, 1);
        x.weight(3, 2, 1);
        edges.due("behind greater WEIGHTS", x.rank(0), 0);
        edges.due("behind greater WEIGHTS, SORT 1", x.rank(1), 0);
        x.forbid(3, 1, true);
        edges.due("behind what is FORBIDDEN", x.rank(0), NONE);
        edges.due("behind what is FORBIDDEN, SORT 1", x.rank(1), NONE);
        x.forbid(3, 1, false);
        edges.due("behind what is free again", x.rank(0), 0);
        edges.due("behind what is free again, SORT 1", x.rank(1), 0);
    }

    private void rankRefused() {
        edges.refusesEachAndFar("sort is OUTSIDE", Scenes::busy, HeadTrees::rank, OUTSIDE, -1, 2, 3);
        edges.refusesEach("sort is OUTSIDE, no TREE at hand", Scenes::circle, HeadTrees::rank, OUTSIDE, -1, 2);
        edges.refusesEach("sort is OUTSIDE, none ALLOWED", BestTreesEdgesTest::rootless, HeadTrees::rank, OUTSIDE,
            -1, 2);
    }
}
