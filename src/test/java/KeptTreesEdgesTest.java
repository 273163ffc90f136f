/** Boundary cases of promises 16 to 20: kept trees, learning. */
public final class KeptTreesEdgesTest {
    private static final int NONE = -1;
    private static final int UNKNOWN = -101;
    private static final int OUTSIDE = -102;
    private static final int STATE = -103;
    private static final int FULL = -104;

    private final Edges edges = new Edges();

    public static void main(String[] args) {
        KeptTreesEdgesTest test = new KeptTreesEdgesTest();
        test.keep();
        test.keepAllKinds();
        test.keepIsACopy();
        test.keepRefused();
        test.keepBehindForget();
        test.forget();
        test.forgetAll();
        test.forgetRefused();
        test.recall();
        test.recallClears();
        test.recallRefused();
        test.table();
        test.tableCellsAreApart();
        test.tableOfMost();
        test.tableRefused();
        test.learn();
        test.learnOfMost();
        test.learnRoundsDown();
        test.learnChangesWeightsAlone();
        test.edges.end(16, 20);
    }

    private static HeadTrees keptOften(int times, int... heads) {
        HeadTrees x = Scenes.with(heads);
        for (int k = 0; k < times; k++) {
            x.keep();
        }
        return x;
    }

    private static HeadTrees fullAndCircle() {
        HeadTrees x = Scenes.fullOfKept();
        x.head(2, 1);
        return x;
    }

    private void keep() {
        edges.promise(16, "keep");
        HeadTrees x = new HeadTrees();
        for (int k = 0; k < 20; k++) {
            edges.due("numbered as they come", x.keep(), k);
            edges.due("as many as have come", x.count(4), k + 1);
        }
        edges.due("one more than 20", x.keep(), FULL);
        edges.due("as many as before", x.count(4), 20);
        edges.due("one more than 20, again", x.keep(), FULL);
    }

    private void keepAllKinds() {
        edges.answers("the shortest SENTENCE", HeadTrees::new, y -> y.keep(), 0);
        edges.answers("the longest SENTENCE", () -> Scenes.with(2, 3, 4, 5, 6, 7, 0), y -> y.keep(), 0);
        edges.answers("a TREE that is not SMOOTH", () -> Scenes.with(3, 0, 2), y -> y.keep(), 0);
        edges.answers("a TREE that is not ALLOWED", () -> {
            HeadTrees x = new HeadTrees();
            x.forbid(0, 1, true);
            return x;
        }, y -> y.keep(), 0);
        edges.answers("the same TREE again", Scenes::busy, y -> y.keep() + y.keep(), 4 + 5);
    }

    private void keepIsACopy() {
        HeadTrees x = Scenes.with(2, 3, 4, 5, 6, 7, 0);
        Scenes.tags(x, 1, 2, 3, 4, 5, 6, 7);
        edges.due("kept", x.keep(), 0);
        long kept = x.near(NONE, 0);
        edges.due("alike at first", kept, 21);
        Scenes.draw(x, 0, 0, 0, 0, 0, 0, 0);
        Scenes.tags(x, 0, 0, 0, 0, 0, 0, 0);
        edges.due("HEADS at hand change", x.agree(NONE, 0), 1);
        x.words(1);
        edges.due("the SENTENCE changes", x.recall(0), 7);
        edges.dueHeads("the KEPT one stays", x, 2, 3, 4, 5, 6, 7, 0);
        edges.dueTags("the KEPT one stays", x, 1, 2, 3, 4, 5, 6, 7);
    }

    private void keepRefused() {
        edges.refuses("no TREE", Scenes::circle, HeadTrees::keep, STATE);
        edges.refuses("no TREE, the longest circle", () -> Scenes.with(2, 3, 4, 5, 6, 7, 1), HeadTrees::keep, STATE);
        edges.refuses("no TREE, a circle beside THE ROOT", () -> Scenes.with(0, 3, 2), HeadTrees::keep, STATE);
        edges.refuses("full", Scenes::fullOfKept, HeadTrees::keep, FULL);
        edges.refuses("STATE ahead of FULL", KeptTreesEdgesTest::fullAndCircle, HeadTrees::keep, STATE);
        HeadTrees x = Scenes.with(2, 1);
        x.keep();
        x.head(1, 0);
        edges.due("a refused one takes no number", x.keep(), 0);
    }

    private void keepBehindForget() {
        HeadTrees x = keptOften(19, 0);
        x.forget(18);
        edges.due("the twentieth number, one being gone", x.keep(), 19);
        edges.due("its place is not freed", x.keep(), FULL);
        edges.refuses("gone ones count among the 20", () -> {
            HeadTrees y = Scenes.fullOfKept();
            y.forget(0);
            y.forget(19);
            return y;
        }, HeadTrees::keep, FULL);
    }

    private void forget() {
        edges.promise(17, "forget");
        edges.answers("the first number", Scenes::fullOfKept, x -> x.forget(0), 5);
        edges.answers("the last number", Scenes::fullOfKept, x -> x.forget(19), 3);
        edges.answers("one WORD", () -> keptOften(1, 0), x -> x.forget(0), 1);
        edges.answers("seven WORDS", () -> keptOften(1, 0, 0, 0, 0, 0, 0, 0), x -> x.forget(0), 7);
        edges.answers("no TREE at hand", Scenes::circle, x -> x.forget(0), 5);
        HeadTrees x = edges.answers("the newest", Scenes::busy, y -> y.forget(3), 3);
        edges.dueHeads("HEADS at hand stay", x, 2, 0, 2);
        edges.due("WEIGHTS stay", x.weighs(2, 1), 70);
        edges.due("what is FORBIDDEN stays", x.count(3), 1);
        edges.due("what is ASKED stays", x.count(2), 2);
        edges.due("its number does not come again", x.keep(), 4);
        edges.due("others keep their numbers", x.recall(2), 3);
        edges.dueHeads("others keep their numbers", x, 0, 1, 2);
        edges.due("it is gone for good", x.recall(3), UNKNOWN);
    }

    private void forgetAll() {
        HeadTrees x = keptOften(20, 0, 1, 2, 3, 4, 5, 6);
        for (int k = 19; k >= 0; k--) {
            edges.due("all go, " + k, x.forget(k), 7);
        }
        edges.due("none is left", x.count(1), 0);
        edges.due("all have been", x.count(4), 20);
        edges.due("THE TABLE counts none, THE ROOT", x.table(10, 0, 0), 0);
        edges.due("THE TABLE counts none", x.table(0, 0, 0), 0);
        edges.due("WEIGHTS are unlearned", x.learn(), 49 * 47);
        for (int k = 0; k < 20; k++) {
            edges.due("gone already, " + k, x.forget(k), UNKNOWN);
        }
    }

    private void forgetRefused() {
        edges.refusesEachAndFar("no such number", Scenes::busy, HeadTrees::forget, UNKNOWN, NONE, 4, 19, 20);
        edges.refuses("gone already", Scenes::busy, x -> x.forget(1), UNKNOWN);
        edges.refuses("none KEPT", HeadTrees::new, x -> x.forget(0), UNKNOWN);
        edges.refusesEach("no such number of 20", Scenes::fullOfKept, HeadTrees::forget, UNKNOWN, NONE, 20, 21);
        edges.refuses("no such number, no TREE at hand", Scenes::circle, x -> x.forget(NONE), UNKNOWN);
    }

    private void recall() {
        edges.promise(18, "recall");
        HeadTrees longer = edges.answers("a longer SENTENCE", Scenes::busy, x -> x.recall(0), 5);
        HeadTrees drawn = Scenes.busy();
        drawn.words(5);
        Scenes.tags(drawn, 1, 2, 3, 1, 2);
        Scenes.draw(drawn, 2, 0, 2, 5, 3);
        edges.dueAlike("a longer SENTENCE", longer, drawn);
        HeadTrees newest = edges.answers("no TREE was at hand", Scenes::circle, x -> x.recall(3), 3);
        HeadTrees redrawn = Scenes.busy();
        redrawn.words(3);
        Scenes.tags(redrawn, 4, 9, 0);
        Scenes.draw(redrawn, 3, 0, 2);
        edges.dueAlike("no TREE was at hand", newest, redrawn);
        HeadTrees last = edges.answers("the last number", Scenes::fullOfKept, x -> x.recall(19), 3);
        edges.dueHeads("the last number", last, 2, 0, 2);
        edges.dueTags("the last number", last, 7, 8, 9);
        edges.answers("the first number of 20", Scenes::fullOfKept, x -> x.recall(0), 5);
    }

    private void recallClears() {
        HeadTrees x = keptOften(1, 0);
        x.words(7);
        Scenes.tags(x, 9, 9, 9, 9, 9, 9, 9);
        Scenes.draw(x, 2, 3, 4, 5, 6, 7, 0);
        x.keep();
        x.weight(7, 6, -1000000);
        x.weight(0, 1, 1000000);
        x.forbid(7, 6, true);
        x.forbid(0, 1, true);
        edges.due("the shortest SENTENCE", x.recall(0), 1);
        edges.due("the shortest SENTENCE, WEIGHT 0", x.weighs(0, 1), 0);
        edges.due("the shortest SENTENCE, nothing FORBIDDEN", x.count(3), 0);
        edges.due("the shortest SENTENCE, WORD 2 is gone", x.headOf(2), NONE);
        edges.due("the longest SENTENCE", x.recall(1), 7);
        edges.dueHeads("the longest SENTENCE", x, 2, 3, 4, 5, 6, 7, 0);
        edges.due("the longest SENTENCE, WEIGHT 0", x.weighs(7, 6), 0);
        edges.due("the longest SENTENCE, nothing FORBIDDEN", x.forbid(7, 6, false), 0);
        edges.dueTags("the longest SENTENCE", x, 9, 9, 9, 9, 9, 9, 9);
        edges.due("KEPT ones stay", x.count(1), 2);
    }

    private void recallRefused() {
        edges.refusesEachAndFar("no such number", Scenes::busy, HeadTrees::recall, UNKNOWN, NONE, 4, 19, 20);
        edges.refuses("gone", Scenes::busy, x -> x.recall(1), UNKNOWN);
        edges.refuses("none KEPT", () -> Scenes.words(7), x -> x.recall(0), UNKNOWN);
        edges.refusesEach("no such number of 20", Scenes::fullOfKept, HeadTrees::recall, UNKNOWN, NONE, 20, 21);
        edges.refuses("no such number, no TREE at hand", Scenes::circle, x -> x.recall(NONE), UNKNOWN);
    }

    private void dueTable(String edge, int a, int b, int side, int want) {
        edges.tells(edge, Scenes::busy, x -> x.table(a, b, side), want);
    }

    private void table() {
        edges.promise(19, "table");
        dueTable("the HEAD stands behind", 2, 1, 1, 2);
        dueTable("the HEAD does not stand ahead", 2, 1, 0, 0);
        dueTable("the HEAD stands ahead", 2, 3, 0, 1);
        dueTable("the HEAD stands ahead, TAGS the other way", 3, 2, 0, 1);
        dueTable("the greatest TAG of a HEAD, the least of a WORD", 9, 0, 0, 2);
        dueTable("the greatest TAG of a WORD", 4, 9, 0, 1);
        dueTable("the least TAG of a HEAD", 0, 4, 1, 1);
        dueTable("THE ROOT, the greatest TAG of a WORD", 10, 9, 0, 1);
        dueTable("THE ROOT", 10, 2, 0, 1);
        dueTable("THE ROOT does not stand behind", 10, 2, 1, 0);
        dueTable("one that is gone is not counted", 10, 4, 0, 1);
        dueTable("THE TREE at hand is not counted", 10, 8, 0, 0);
        edges.tells("no TREE at hand", Scenes::circle, x -> x.table(9, 0, 0), 2);
        edges.tells("a new object, the least of all", HeadTrees::new, x -> x.table(0, 0, 0), 0);
        edges.tells("a new object, the greatest of all", HeadTrees::new, x -> x.table(10, 9, 1), 0);
    }

    private void tableCellsAreApart() {
        int[][] counted = {{2, 1, 1, 2}, {10, 2, 0, 1}, {2, 3, 0, 1}, {3, 2, 0, 1}, {10, 4, 0, 1}, {4, 9, 0, 1},
            {9, 0, 0, 2}, {0, 4, 1, 1}, {10, 9, 0, 1}};
        int[] want = new int[220];
        for (int[] c : counted) {
            want[(c[0] * 10 + c[1]) * 2 + c[2]] = c[3];
        }
        HeadTrees x = Scenes.busy();
        for (int cell = 0; cell < 220; cell++) {
            int a = cell / 20;
            int b = cell / 2 % 10;
            int side = cell % 2;
            edges.due("each apart, " + a + ", " + b + ", " + side, x.table(a, b, side), want[cell]);
        }
    }

    private void tableOfMost() {
        edges.tells("the most, THE ROOT", () -> keptOften(20, 0, 0, 0, 0, 0, 0, 0), x -> x.table(10, 0, 0), 140);
        edges.tells("THE ROOT never behind", () -> keptOften(20, 0, 0, 0, 0, 0, 0, 0), x -> x.table(10, 0, 1), 0);
        edges.tells("the most ahead", () -> keptOften(20, 0, 1, 1, 1, 1, 1, 1), x -> x.table(0, 0, 0), 120);
        edges.tells("the most behind", () -> keptOften(20, 7, 7, 7, 7, 7, 7, 0), x -> x.table(0, 0, 1), 120);
        HeadTrees x = keptOften(20, 0, 1);
        for (int k = 0; k < 20; k++) {
            edges.due("less with each that goes", x.table(0, 0, 0), 20 - k);
            x.forget(k);
        }
        edges.due("none when all are gone", x.table(0, 0, 0), 0);
        HeadTrees refused = keptOften(21, 0, 1);
        edges.due("one refused as FULL is not counted", refused.table(0, 0, 0), 20);
    }

    private void tableRefused() {
        edges.refusesEachAndFar("a is OUTSIDE", Scenes::busy, (x, a) -> x.table(a, 0, 0), OUTSIDE, -1, 11, 12);
        edges.refusesEachAndFar("b is OUTSIDE", Scenes::busy, (x, b) -> x.table(0, b, 0), OUTSIDE, -1, 10, 11);
        edges.refusesEachAndFar("the side is OUTSIDE", Scenes::busy, (x, s) -> x.table(0, 0, s), OUTSIDE, -1, 2, 3);
        edges.refusesEach("a is OUTSIDE at the last TAG", Scenes::busy, (x, a) -> x.table(a, 9, 1), OUTSIDE, -1, 11);
        edges.refusesEach("b is OUTSIDE at THE ROOT", Scenes::busy, (x, b) -> x.table(10, b, 1), OUTSIDE, -1, 10);
        edges.refusesEach("the side is OUTSIDE at THE ROOT", Scenes::busy, (x, s) -> x.table(10, 9, s), OUTSIDE, -1, 2);
    }

    private void learn() {
        edges.promise(20, "learn");
        HeadTrees one = edges.answers("nothing KEPT, one WORD", HeadTrees::new, HeadTrees::learn, 47);
        edges.due("nothing KEPT, one WORD", one.weighs(0, 1), 47);
        HeadTrees seven = edges.answers("nothing KEPT, seven WORDS", () -> Scenes.words(7), HeadTrees::learn, 49 * 47);
        for (int d = 1; d <= 7; d++) {
            for (int h = 0; h <= 7; h++) {
                edges.due("each of them, " + h + " for " + d, seven.weighs(h, d), h == d ? -2000000 : 47);
            }
        }
        edges.due("learned again, the same", seven.learn(), 49 * 47);
        HeadTrees told = Scenes.words(1);
        told.weight(0, 1, -1000000);
        edges.due("what was told is gone", told.learn(), 47);
        edges.answers("no TREE at hand", Scenes::circle, HeadTrees::learn, 454);
    }

    private void learnOfMost() {
        HeadTrees flat = edges.answers("the most of THE ROOT", () -> keptOften(20, 0, 0, 0, 0, 0, 0, 0),
            HeadTrees::learn, 7 * 875 + 42 * 6);
        edges.due("the greatest WEIGHT", flat.weighs(0, 7), 875);
        edges.due("the least WEIGHT", flat.weighs(7, 1), 6);
        HeadTrees ahead = edges.answers("the most ahead", () -> keptOften(20, 0, 1, 2, 3, 4, 5, 6), HeadTrees::learn,
            7 * 130 + 21 * 751 + 21 * 6);
        edges.due("the most ahead, THE ROOT", ahead.weighs(0, 1), 130);
        edges.due("the most ahead, ahead", ahead.weighs(1, 7), 751);
        edges.due("the most ahead, behind", ahead.weighs(7, 1), 6);
        HeadTrees behind = edges.answers("the most behind", () -> keptOften(20, 2, 3, 4, 5, 6, 7, 0), HeadTrees::learn,
            7 * 130 + 21 * 751 + 21 * 6);
        edges.due("the most behind, behind", behind.weighs(7, 1), 751);
        edges.due("the most behind, ahead", behind.weighs(1, 7), 6);
    }

    private void learnRoundsDown() {
        HeadTrees x = edges.answers("1000 by 22 and 2000 by 22", () -> keptOften(1, 0), HeadTrees::learn, 90);
        x.words(2);
        edges.due("two WORDS, one counted", x.learn(), 2 * 90 + 2 * 45);
        HeadTrees whole = edges.answers("nothing to round", () -> keptOften(1, 0, 0, 0, 0), HeadTrees::learn, 1280);
        edges.due("5000 by 25", whole.weighs(0, 4), 200);
        edges.due("1000 by 25", whole.weighs(4, 1), 40);
        whole.forget(0);
        edges.due("unlearned", whole.learn(), 16 * 47);
        HeadTrees other = keptOften(1, 0);
        other.tag(1, 9);
        edges.due("a TAG that is not counted", other.learn(), 47);
    }

    private void learnChangesWeightsAlone() {
        HeadTrees x = edges.answers("the sum of all", Scenes::busy, HeadTrees::learn, 6 * 47 + 86 + 43 + 43);
        HeadTrees told = Scenes.busy();
        int[][] weights = {{0, 1, 47}, {2, 1, 47}, {3, 1, 47}, {0, 2, 47}, {1, 2, 47}, {3, 2, 47}, {0, 3, 86},
            {1, 3, 43}, {2, 3, 43}};
        for (int[] w : weights) {
            told.weight(w[0], w[1], w[2]);
        }
        edges.dueAlike("WEIGHTS alone, what is FORBIDDEN stays so", x, told);
    }
}
