/** For each promise of the document: what it says, at its edges, and what it refuses. */
public final class PromisesTest {
    private static final int NONE = HeadTrees.NONE;
    private static final int UNKNOWN = HeadTrees.UNKNOWN;
    private static final int OUTSIDE = HeadTrees.OUTSIDE;
    private static final int STATE = HeadTrees.STATE;
    private static final int FULL = HeadTrees.FULL;
    private static final int NO_WEIGHT = -2000000;
    private static final int NO_TREE = -100000000;
    private static final int NO_SUCH_RANK = -100000001;
    private static final int[] FAR = {Integer.MIN_VALUE, -1000, 1000, Integer.MAX_VALUE};

    private final Check check = new Check();
    private String promise = "";

    public static void main(String[] args) {
        PromisesTest test = new PromisesTest();
        test.theConstants();
        test.theSentence();
        test.theTreeAtHand();
        test.bestTrees();
        test.keptTreesAndLearning();
        test.questions();
        test.agreement();
        test.whatIsTold();
        test.check.end();
    }

    private void due(String call, long got, long want) {
        check.due("promise " + promise + ": " + call, got, want);
    }

    /** A refused call: its answer, and that nothing has changed by it. */
    private void refused(HeadTrees x, long before, String call, long got, long want) {
        due(call, got, want);
        due("digest() behind " + call, x.digest(), before);
    }

    private static HeadTrees with(int... heads) {
        HeadTrees x = new HeadTrees();
        x.words(heads.length);
        draw(x, heads);
        return x;
    }

    private static void draw(HeadTrees x, int... heads) {
        for (int d = 1; d <= heads.length; d++) {
            x.head(d, heads[d - 1]);
        }
    }

    private static void tags(HeadTrees x, int... tags) {
        for (int d = 1; d <= tags.length; d++) {
            x.tag(d, tags[d - 1]);
        }
    }

    private void dueHeads(HeadTrees x, int... heads) {
        for (int d = 1; d <= heads.length; d++) {
            due("headOf(" + d + ")", x.headOf(d), heads[d - 1]);
        }
    }

    private void theConstants() {
        promise = "face";
        due("NONE", NONE, -1);
        due("UNKNOWN", UNKNOWN, -101);
        due("OUTSIDE", OUTSIDE, -102);
        due("STATE", STATE, -103);
        due("FULL", FULL, -104);
    }

    private void theSentence() {
        newObject();
        words();
        tag();
        weight();
        forbid();
        weighs();
    }

    private void newObject() {
        promise = "1";
        HeadTrees x = new HeadTrees();
        int[] counts = {1, 0, 0, 0, 0};
        for (int what = 0; what < counts.length; what++) {
            due("count(" + what + ")", x.count(what), counts[what]);
        }
        due("tag(1, 0)", x.tag(1, 0), 0);
        due("headOf(1)", x.headOf(1), 0);
        due("weighs(0, 1)", x.weighs(0, 1), 0);
        due("is()", x.is(), 6);
        due("forget(0)", x.forget(0), UNKNOWN);
        due("clear()", x.clear(), 0);
    }

    private void words() {
        promise = "2";
        HeadTrees x = with(2, 0, 2);
        tags(x, 4, 5, 6);
        x.weight(2, 1, 7);
        x.forbid(3, 1, true);
        x.keep();
        x.ask(0, 0, 1);
        long before = x.digest();
        refused(x, before, "words(0)", x.words(0), OUTSIDE);
        refused(x, before, "words(8)", x.words(8), OUTSIDE);
        for (int n : FAR) {
            refused(x, before, "words(" + n + ")", x.words(n), OUTSIDE);
        }
        due("words(3)", x.words(3), 3);
        for (int d = 1; d <= 3; d++) {
            due("headOf(" + d + ")", x.headOf(d), 0);
            due("tag(" + d + ", 0)", x.tag(d, 0), 0);
        }
        due("weighs(2, 1)", x.weighs(2, 1), 0);
        due("count(3)", x.count(3), 0);
        due("count(1): what is kept stays", x.count(1), 1);
        due("count(2): what is asked stays", x.count(2), 1);
        for (int n = 1; n <= 7; n++) {
            due("words(" + n + ")", x.words(n), n);
            due("count(0)", x.count(0), n);
        }
    }

    private void tag() {
        promise = "3";
        HeadTrees x = new HeadTrees();
        x.words(3);
        due("tag(1, 9)", x.tag(1, 9), 0);
        due("tag(3, 4)", x.tag(3, 4), 0);
        due("tag(1, 0)", x.tag(1, 0), 9);
        due("tag(3, 1)", x.tag(3, 1), 4);
        long before = x.digest();
        refused(x, before, "tag(0, 1)", x.tag(0, 1), UNKNOWN);
        refused(x, before, "tag(4, 1)", x.tag(4, 1), UNKNOWN);
        refused(x, before, "tag(1, 10)", x.tag(1, 10), OUTSIDE);
        refused(x, before, "tag(1, -1)", x.tag(1, -1), OUTSIDE);
        refused(x, before, "tag(4, 10)", x.tag(4, 10), UNKNOWN);
        for (int far : FAR) {
            refused(x, before, "tag(" + far + ", 0)", x.tag(far, 0), UNKNOWN);
            refused(x, before, "tag(1, " + far + ")", x.tag(1, far), OUTSIDE);
        }
    }

    private void weight() {
        promise = "4";
        HeadTrees x = new HeadTrees();
        x.words(7);
        due("weight(0, 7, 1000000)", x.weight(0, 7, 1000000), 0);
        due("weight(0, 7, -1000000)", x.weight(0, 7, -1000000), 1000000);
        due("weight(7, 1, 3)", x.weight(7, 1, 3), 0);
        due("weight(0, 7, 0)", x.weight(0, 7, 0), -1000000);
        due("weighs(1, 7)", x.weighs(1, 7), 0);
        long before = x.digest();
        refused(x, before, "weight(8, 1, 0)", x.weight(8, 1, 0), UNKNOWN);
        refused(x, before, "weight(-1, 1, 0)", x.weight(-1, 1, 0), UNKNOWN);
        refused(x, before, "weight(1, 0, 0)", x.weight(1, 0, 0), UNKNOWN);
        refused(x, before, "weight(1, 8, 0)", x.weight(1, 8, 0), UNKNOWN);
        refused(x, before, "weight(7, 7, 0)", x.weight(7, 7, 0), UNKNOWN);
        refused(x, before, "weight(7, 7, 1000001)", x.weight(7, 7, 1000001), UNKNOWN);
        refused(x, before, "weight(0, 1, 1000001)", x.weight(0, 1, 1000001), OUTSIDE);
        refused(x, before, "weight(0, 1, -1000001)", x.weight(0, 1, -1000001), OUTSIDE);
        for (int far : FAR) {
            refused(x, before, "weight(" + far + ", 1, 0)", x.weight(far, 1, 0), UNKNOWN);
            refused(x, before, "weight(1, " + far + ", 0)", x.weight(1, far, 0), UNKNOWN);
        }
        refused(x, before, "weight of the least int", x.weight(0, 1, Integer.MIN_VALUE), OUTSIDE);
        refused(x, before, "weight of the greatest int", x.weight(0, 1, Integer.MAX_VALUE), OUTSIDE);
    }

    private void forbid() {
        promise = "5";
        HeadTrees x = new HeadTrees();
        x.words(2);
        due("forbid(0, 1, true)", x.forbid(0, 1, true), 0);
        due("forbid(0, 1, true)", x.forbid(0, 1, true), 1);
        due("forbid(2, 1, false)", x.forbid(2, 1, false), 0);
        due("trees(0)", x.trees(0), 1);
        due("forbid(0, 1, false)", x.forbid(0, 1, false), 1);
        due("forbid(0, 1, false)", x.forbid(0, 1, false), 0);
        due("trees(0)", x.trees(0), 3);
        long before = x.digest();
        refused(x, before, "forbid(3, 1, true)", x.forbid(3, 1, true), UNKNOWN);
        refused(x, before, "forbid(-1, 1, true)", x.forbid(-1, 1, true), UNKNOWN);
        refused(x, before, "forbid(1, 0, true)", x.forbid(1, 0, true), UNKNOWN);
        refused(x, before, "forbid(1, 3, true)", x.forbid(1, 3, true), UNKNOWN);
        refused(x, before, "forbid(2, 2, true)", x.forbid(2, 2, true), UNKNOWN);
        for (int far : FAR) {
            refused(x, before, "forbid(" + far + ", 1, true)", x.forbid(far, 1, true), UNKNOWN);
            refused(x, before, "forbid(1, " + far + ", true)", x.forbid(1, far, true), UNKNOWN);
        }
    }

    private void weighs() {
        promise = "6";
        HeadTrees x = new HeadTrees();
        x.words(3);
        x.weight(3, 2, -5);
        x.forbid(3, 2, true);
        due("weighs(3, 2)", x.weighs(3, 2), -5);
        due("weighs(2, 3)", x.weighs(2, 3), 0);
        due("weighs(0, 0)", x.weighs(0, 0), NO_WEIGHT);
        due("weighs(2, 2)", x.weighs(2, 2), NO_WEIGHT);
        due("weighs(4, 1)", x.weighs(4, 1), NO_WEIGHT);
        due("weighs(-1, 1)", x.weighs(-1, 1), NO_WEIGHT);
        due("weighs(1, 4)", x.weighs(1, 4), NO_WEIGHT);
        for (int far : FAR) {
            due("weighs(" + far + ", 1)", x.weighs(far, 1), NO_WEIGHT);
            due("weighs(1, " + far + ")", x.weighs(1, far), NO_WEIGHT);
        }
    }

    private void theTreeAtHand() {
        head();
        headOf();
        is();
        sum();
        over();
        about();
    }

    private void head() {
        promise = "7";
        HeadTrees x = new HeadTrees();
        x.words(3);
        due("head(1, 3)", x.head(1, 3), 0);
        due("head(1, 2)", x.head(1, 2), 3);
        due("head(1, 0)", x.head(1, 0), 2);
        due("head(3, 1)", x.head(3, 1), 0);
        due("head(1, 3): no tree, yet told", x.head(1, 3), 0);
        long before = x.digest();
        refused(x, before, "head(0, 1)", x.head(0, 1), UNKNOWN);
        refused(x, before, "head(4, 1)", x.head(4, 1), UNKNOWN);
        refused(x, before, "head(1, 4)", x.head(1, 4), UNKNOWN);
        refused(x, before, "head(1, -1)", x.head(1, -1), UNKNOWN);
        refused(x, before, "head(2, 2)", x.head(2, 2), UNKNOWN);
        for (int far : FAR) {
            refused(x, before, "head(" + far + ", 1)", x.head(far, 1), UNKNOWN);
            refused(x, before, "head(1, " + far + ")", x.head(1, far), UNKNOWN);
        }
    }

    private void headOf() {
        promise = "8";
        HeadTrees x = with(2, 0, 1);
        dueHeads(x, 2, 0, 1);
        due("headOf(0)", x.headOf(0), NONE);
        due("headOf(4)", x.headOf(4), NONE);
        for (int far : FAR) {
            due("headOf(" + far + ")", x.headOf(far), NONE);
        }
    }

    private void is() {
        promise = "9";
        HeadTrees x = with(0, 0, 0, 0);
        due("is() of heads 0", x.is(), 6);
        draw(x, 3, 0, 0, 0);
        due("is(): 2 between 1 and 3 hangs on 0", x.is(), 5);
        draw(x, 3, 4, 4, 0);
        due("is(): 2 between 1 and 3 hangs on 4", x.is(), 5);
        draw(x, 3, 1, 0, 0);
        due("is(): 2 hangs on 1", x.is(), 6);
        draw(x, 0, 0, 0, 1);
        due("is(): 2, 3 between 1 and 4 hang on 0", x.is(), 5);
        draw(x, 0, 3, 2, 0);
        due("is(): a circle", x.is(), 4);
        x.forbid(3, 2, true);
        due("is(): a circle, forbidden", x.is(), 0);
        draw(x, 3, 0, 0, 0);
        due("is(): no head of it is forbidden", x.is(), 5);
        x.forbid(0, 4, true);
        due("is(): forbidden", x.is(), 1);
        draw(x, 0, 1, 2, 3);
        due("is(): a chain", x.is(), 6);
        x.forbid(2, 3, true);
        due("is(): a chain, forbidden", x.is(), 2);
        x.forbid(2, 3, false);
        x.forbid(0, 1, true);
        due("is(): a chain, its first head forbidden", x.is(), 2);
    }

    private void sum() {
        promise = "10";
        HeadTrees x = with(0, 1, 2);
        due("sum()", x.sum(), 0);
        x.weight(0, 1, 5);
        x.weight(1, 2, -70);
        x.weight(2, 3, 900);
        x.weight(3, 2, 100000);
        due("sum()", x.sum(), 835);
        x.forbid(0, 1, true);
        due("sum(): forbidden ones count", x.sum(), 835);
        x.head(2, 3);
        due("sum(): of no tree, too", x.sum(), 100905);
        x.words(7);
        for (int d = 1; d <= 7; d++) {
            x.weight(0, d, -1000000);
        }
        due("sum(): the least", x.sum(), -7000000);
        for (int d = 1; d <= 7; d++) {
            x.weight(0, d, 1000000);
        }
        due("sum(): the greatest", x.sum(), 7000000);
    }

    private void over() {
        promise = "11";
        HeadTrees x = with(2, 0, 2, 3);
        int[][] pairs = {{0, 1}, {0, 4}, {2, 1}, {2, 3}, {2, 4}, {3, 4}};
        int[][] others = {{1, 2}, {1, 1}, {4, 3}, {4, 2}, {3, 1}, {1, 3}};
        for (int[] pair : pairs) {
            due("over(" + pair[0] + ", " + pair[1] + ")", x.over(pair[0], pair[1]), 1);
        }
        for (int[] pair : others) {
            due("over(" + pair[0] + ", " + pair[1] + ")", x.over(pair[0], pair[1]), 0);
        }
        due("over(5, 1)", x.over(5, 1), UNKNOWN);
        due("over(-1, 1)", x.over(-1, 1), UNKNOWN);
        due("over(1, 0)", x.over(1, 0), UNKNOWN);
        due("over(1, 5)", x.over(1, 5), UNKNOWN);
        x.head(2, 4);
        due("over(2, 1) in no tree", x.over(2, 1), STATE);
        due("over(5, 1) in no tree", x.over(5, 1), UNKNOWN);
        for (int far : FAR) {
            due("over(" + far + ", 1)", x.over(far, 1), UNKNOWN);
            due("over(1, " + far + ")", x.over(1, far), UNKNOWN);
        }
    }

    private void about() {
        promise = "12";
        HeadTrees x = with(4, 0, 4, 2, 1);
        int[][] want = {{2, 1, 1, 5}, {0, 4, 1, 5}, {2, 0, 3, 3}, {1, 3, 1, 5}, {3, 0, 5, 5}};
        for (int d = 1; d <= 5; d++) {
            for (int what = 0; what <= 3; what++) {
                due("about(" + d + ", " + what + ")", x.about(d, what), want[d - 1][what]);
            }
        }
        due("about(0, 0)", x.about(0, 0), UNKNOWN);
        due("about(6, 4)", x.about(6, 4), UNKNOWN);
        due("about(1, 4)", x.about(1, 4), OUTSIDE);
        due("about(1, -1)", x.about(1, -1), OUTSIDE);
        x.head(2, 5);
        due("about(1, 0) in no tree", x.about(1, 0), STATE);
        due("about(3, 1) in no tree", x.about(3, 1), STATE);
        due("about(1, 4) in no tree", x.about(1, 4), OUTSIDE);
        due("about(6, 0) in no tree", x.about(6, 0), UNKNOWN);
        for (int far : FAR) {
            due("about(" + far + ", 0)", x.about(far, 0), UNKNOWN);
            due("about(1, " + far + ")", x.about(1, far), OUTSIDE);
        }
    }

    private void bestTrees() {
        best();
        bestOfMany();
        trees();
        rank();
    }

    private void best() {
        promise = "13";
        HeadTrees x = new HeadTrees();
        x.words(2);
        x.weight(0, 1, 1);
        x.weight(0, 2, 4);
        x.weight(2, 1, 3);
        x.weight(1, 2, 6);
        due("best(0, 0): like sums, least head of word 1 first", x.best(0, 0), 7);
        dueHeads(x, 0, 1);
        due("best(0, 1)", x.best(0, 1), 7);
        dueHeads(x, 2, 0);
        due("best(0, 2)", x.best(0, 2), 5);
        dueHeads(x, 0, 0);
        long before = x.digest();
        refused(x, before, "best(0, 3)", x.best(0, 3), NO_TREE);
        refused(x, before, "best(1, 30)", x.best(1, 30), NO_TREE);
        refused(x, before, "best(0, 31)", x.best(0, 31), NO_SUCH_RANK);
        refused(x, before, "best(0, -1)", x.best(0, -1), NO_SUCH_RANK);
        refused(x, before, "best(2, 0)", x.best(2, 0), NO_SUCH_RANK);
        refused(x, before, "best(-1, 0)", x.best(-1, 0), NO_SUCH_RANK);
        for (int far : FAR) {
            refused(x, before, "best(" + far + ", 0)", x.best(far, 0), NO_SUCH_RANK);
            refused(x, before, "best(0, " + far + ")", x.best(0, far), NO_SUCH_RANK);
        }
        x.forbid(0, 1, true);
        due("best(0, 0): allowed ones alone", x.best(0, 0), 7);
        dueHeads(x, 2, 0);
        x.forbid(0, 2, true);
        due("best(0, 0): none hangs on the root", x.best(0, 0), NO_TREE);
        due("best(1, 0): none hangs on the root", x.best(1, 0), NO_TREE);
        dueHeads(x, 2, 0);
    }

    private void bestOfMany() {
        HeadTrees x = new HeadTrees();
        x.words(3);
        x.weight(3, 1, 10);
        due("best(0, 0): lines may cross", x.best(0, 0), 10);
        dueHeads(x, 3, 0, 0);
        due("best(1, 0): no line may cross", x.best(1, 0), 10);
        dueHeads(x, 3, 1, 0);
        x.words(7);
        for (int d = 1; d <= 7; d++) {
            for (int h = 0; h <= 7; h++) {
                x.weight(h, d, -1000000);
            }
        }
        due("best(0, 30): the least sum", x.best(0, 30), -7000000);
        due("best(1, 30): the least sum", x.best(1, 30), -7000000);
        for (int d = 1; d <= 7; d++) {
            x.weight(d - 1, d, 1000000);
        }
        due("best(1, 0): the greatest sum", x.best(1, 0), 7000000);
        due("best(0, 0): the greatest sum", x.best(0, 0), 7000000);
        dueHeads(x, 0, 1, 2, 3, 4, 5, 6);
    }

    private void trees() {
        promise = "14";
        HeadTrees x = new HeadTrees();
        long[] all = {1, 3, 16, 125, 1296, 16807, 262144};
        long[] smooth = {1, 3, 12, 55, 273, 1428, 7752};
        for (int n = 1; n <= 7; n++) {
            x.words(n);
            due("trees(0) of " + n, x.trees(0), all[n - 1]);
            due("trees(1) of " + n, x.trees(1), smooth[n - 1]);
        }
        x.words(3);
        x.forbid(0, 1, true);
        x.forbid(2, 1, true);
        x.forbid(1, 3, true);
        due("trees(0)", x.trees(0), 4);
        due("trees(1)", x.trees(1), 2);
        x.forbid(3, 1, true);
        due("trees(0): word 1 has no head", x.trees(0), 0);
        due("trees(1): word 1 has no head", x.trees(1), 0);
        due("trees(2)", x.trees(2), OUTSIDE);
        due("trees(-1)", x.trees(-1), OUTSIDE);
        for (int far : FAR) {
            due("trees(" + far + ")", x.trees(far), OUTSIDE);
        }
    }

    private void rank() {
        promise = "15";
        HeadTrees x = with(0, 0, 0, 0, 0, 0);
        due("rank(0)", x.rank(0), 0);
        for (int k = 0; k <= 30; k++) {
            x.best(0, k);
            due("rank(0) behind best(0, " + k + ")", x.rank(0), k);
            x.best(1, k);
            due("rank(1) behind best(1, " + k + ")", x.rank(1), k);
        }
        draw(x, 6, 1, 1, 1, 1, 0);
        due("rank(0): behind the first 31", x.rank(0), NONE);
        draw(x, 2, 1, 0, 0, 0, 0);
        due("rank(0): no tree", x.rank(0), NONE);
        draw(x, 0, 0, 0, 0, 0, 1);
        due("rank(0): not smooth", x.rank(0), 1);
        due("rank(1): not smooth", x.rank(1), NONE);
        x.forbid(1, 6, true);
        due("rank(0): forbidden", x.rank(0), NONE);
        due("rank(2)", x.rank(2), OUTSIDE);
        due("rank(-1)", x.rank(-1), OUTSIDE);
        for (int far : FAR) {
            due("rank(" + far + ")", x.rank(far), OUTSIDE);
        }
    }

    private void keptTreesAndLearning() {
        keep();
        forget();
        recall();
        table();
        learn();
    }

    private void keep() {
        promise = "16";
        HeadTrees x = with(2, 1);
        long before = x.digest();
        refused(x, before, "keep() of no tree", x.keep(), STATE);
        x.head(1, 0);
        x.forbid(0, 1, true);
        for (int k = 0; k < 20; k++) {
            due("keep()", x.keep(), k);
        }
        before = x.digest();
        refused(x, before, "keep() of one more", x.keep(), FULL);
        due("table(10, 0, 0): the refused one is not counted", x.table(10, 0, 0), 20);
        x.head(1, 2);
        before = x.digest();
        refused(x, before, "keep() of no tree, and full", x.keep(), STATE);
        x.head(1, 0);
        x.forget(3);
        before = x.digest();
        refused(x, before, "keep(): a number does not come again", x.keep(), FULL);
        x.head(1, 2);
        x.head(2, 0);
        x.tag(1, 5);
        due("recall(19): what is kept does not follow what is at hand", x.recall(19), 2);
        dueHeads(x, 0, 1);
        due("tag(1, 0)", x.tag(1, 0), 0);
    }

    private void forget() {
        promise = "17";
        HeadTrees x = with(0, 1, 2);
        x.keep();
        x.words(5);
        x.keep();
        due("forget(0)", x.forget(0), 3);
        long before = x.digest();
        refused(x, before, "forget(0) again", x.forget(0), UNKNOWN);
        refused(x, before, "forget(2)", x.forget(2), UNKNOWN);
        refused(x, before, "forget(NONE)", x.forget(NONE), UNKNOWN);
        for (int far : FAR) {
            refused(x, before, "forget(" + far + ")", x.forget(far), UNKNOWN);
        }
        due("keep(): the number does not come again", x.keep(), 2);
        due("forget(1)", x.forget(1), 5);
        due("count(1)", x.count(1), 1);
        due("count(4)", x.count(4), 3);
    }

    private void recall() {
        promise = "18";
        HeadTrees x = with(2, 0, 2);
        tags(x, 7, 8, 9);
        x.keep();
        x.words(5);
        x.keep();
        x.weight(0, 1, 4);
        x.forbid(0, 2, true);
        x.ask(0, 0, 1);
        long before = x.digest();
        refused(x, before, "recall(2)", x.recall(2), UNKNOWN);
        refused(x, before, "recall(NONE)", x.recall(NONE), UNKNOWN);
        for (int far : FAR) {
            refused(x, before, "recall(" + far + ")", x.recall(far), UNKNOWN);
        }
        due("recall(0)", x.recall(0), 3);
        due("count(0)", x.count(0), 3);
        dueHeads(x, 2, 0, 2);
        due("weighs(0, 1)", x.weighs(0, 1), 0);
        due("count(3)", x.count(3), 0);
        due("count(2)", x.count(2), 1);
        due("tag(1, 0)", x.tag(1, 0), 7);
        due("tag(3, 0)", x.tag(3, 0), 9);
        due("head(1, 0)", x.head(1, 0), 2);
        due("recall(0): it stayed as it was kept", x.recall(0), 3);
        dueHeads(x, 2, 0, 2);
        due("tag(1, 7)", x.tag(1, 7), 7);
        x.forget(0);
        before = x.digest();
        refused(x, before, "recall(0) of what is gone", x.recall(0), UNKNOWN);
    }

    private void table() {
        promise = "19";
        HeadTrees x = with(2, 0, 2, 3);
        tags(x, 1, 2, 1, 9);
        due("table(2, 1, 1) ahead of keeping", x.table(2, 1, 1), 0);
        x.keep();
        int[][] cells = {{2, 1, 1}, {10, 2, 0}, {2, 1, 0}, {1, 9, 0}};
        for (int[] cell : cells) {
            due("table of one", x.table(cell[0], cell[1], cell[2]), 1);
        }
        due("table(1, 9, 1)", x.table(1, 9, 1), 0);
        due("table(9, 1, 0)", x.table(9, 1, 0), 0);
        due("table(10, 2, 1): the root is never behind", x.table(10, 2, 1), 0);
        x.keep();
        due("table(1, 9, 0) of two", x.table(1, 9, 0), 2);
        x.forget(0);
        due("table(1, 9, 0) of one gone", x.table(1, 9, 0), 1);
        x.tag(4, 8);
        due("table(1, 9, 0): of kept ones alone", x.table(1, 9, 0), 1);
        due("table(0, 0, 0)", x.table(0, 0, 0), 0);
        due("table(11, 0, 0)", x.table(11, 0, 0), OUTSIDE);
        due("table(-1, 0, 0)", x.table(-1, 0, 0), OUTSIDE);
        due("table(0, 10, 0)", x.table(0, 10, 0), OUTSIDE);
        due("table(0, -1, 0)", x.table(0, -1, 0), OUTSIDE);
        due("table(0, 0, 2)", x.table(0, 0, 2), OUTSIDE);
        due("table(0, 0, -1)", x.table(0, 0, -1), OUTSIDE);
        for (int far : FAR) {
            due("table(" + far + ", 0, 0)", x.table(far, 0, 0), OUTSIDE);
            due("table(0, " + far + ", 0)", x.table(0, far, 0), OUTSIDE);
            due("table(0, 0, " + far + ")", x.table(0, 0, far), OUTSIDE);
        }
    }

    private void learn() {
        promise = "20";
        HeadTrees x = with(0, 1);
        x.weight(0, 1, 9);
        x.forbid(2, 1, true);
        due("learn() of nothing: four times 1000 by 21", x.learn(), 188);
        due("weighs(0, 1)", x.weighs(0, 1), 47);
        due("count(3): what is forbidden stays", x.count(3), 1);
        tags(x, 3, 4);
        x.keep();
        x.keep();
        due("learn()", x.learn(), 3000 / 23 + 1000 / 23 + 1000 / 23 + 3000 / 23);
        due("weighs(0, 1)", x.weighs(0, 1), 130);
        due("weighs(2, 1)", x.weighs(2, 1), 43);
        due("weighs(0, 2)", x.weighs(0, 2), 43);
        due("weighs(1, 2)", x.weighs(1, 2), 130);
        x.forget(1);
        due("learn() behind forget(1)", x.learn(), 2 * (2000 / 22 + 1000 / 22));
        due("weighs(0, 1)", x.weighs(0, 1), 90);
        x.forget(0);
        due("learn() behind forget(0)", x.learn(), 188);
    }

    private void questions() {
        ask();
        clear();
        answers();
        answer();
        eachSortOfQuestion();
    }

    private void ask() {
        promise = "21";
        HeadTrees x = new HeadTrees();
        due("ask(0, 0, 3)", x.ask(0, 0, 3), 1);
        due("ask(4, 3, 0)", x.ask(4, 3, 0), 2);
        due("ask(3, 3, 9)", x.ask(3, 3, 9), 3);
        long before = x.digest();
        int[][] outside = {{-1, 0, 0}, {5, 0, 0}, {0, -1, 0}, {0, 4, 0}, {0, 0, -1}, {0, 0, 4}, {1, 0, 4},
            {2, 0, 9}, {4, 0, 4}, {3, 0, 10}, {3, 0, -1}, {3, 4, 0}};
        for (int[] q : outside) {
            refused(x, before, "ask(" + q[0] + ", " + q[1] + ", " + q[2] + ")", x.ask(q[0], q[1], q[2]), OUTSIDE);
        }
        for (int far : FAR) {
            refused(x, before, "ask(" + far + ", 0, 0)", x.ask(far, 0, 0), OUTSIDE);
            refused(x, before, "ask(3, " + far + ", 0)", x.ask(3, far, 0), OUTSIDE);
            refused(x, before, "ask(3, 0, " + far + ")", x.ask(3, 0, far), OUTSIDE);
        }
        due("ask(1, 1, 1)", x.ask(1, 1, 1), 4);
        due("ask(2, 2, 2)", x.ask(2, 2, 2), 5);
        due("ask(2, 2, 2)", x.ask(2, 2, 2), 6);
        before = x.digest();
        refused(x, before, "ask(0, 0, 1) of a seventh", x.ask(0, 0, 1), FULL);
        refused(x, before, "ask(5, 0, 1) of a seventh", x.ask(5, 0, 1), OUTSIDE);
    }

    private void clear() {
        promise = "22";
        HeadTrees x = new HeadTrees();
        due("clear()", x.clear(), 0);
        x.ask(3, 0, 0);
        x.ask(3, 1, 0);
        due("clear()", x.clear(), 2);
        due("clear()", x.clear(), 0);
        due("count(2)", x.count(2), 0);
        x.ask(3, 1, 0);
        x.clear();
        due("ask(3, 0, 0)", x.ask(3, 0, 0), 1);
        due("answer(NONE, 0): what was cleared is not asked of", x.answer(NONE, 0), 1000);
    }

    private void answers() {
        promise = "23";
        HeadTrees x = with(2, 0, 2);
        tags(x, 5, 6, 5);
        x.keep();
        due("answers(0), nothing asked", x.answers(0), STATE);
        due("answers(NONE), nothing asked", x.answers(NONE), STATE);
        due("answers(1), nothing asked", x.answers(1), UNKNOWN);
        x.ask(1, 0, 1);
        due("answers(0): the root is no answer", x.answers(0), 2);
        x.ask(3, 1, 5);
        due("answers(0)", x.answers(0), 2);
        x.tag(1, 1);
        due("answers(NONE): by the tags at hand", x.answers(NONE), 1);
        due("answers(0): by the tags kept", x.answers(0), 2);
        x.head(2, 1);
        due("answers(NONE): no tree", x.answers(NONE), STATE);
        due("answers(0): a tree is kept", x.answers(0), 2);
        x.forget(0);
        due("answers(0): gone", x.answers(0), UNKNOWN);
        due("answers(-2)", x.answers(-2), UNKNOWN);
        for (int far : FAR) {
            due("answers(" + far + ")", x.answers(far), UNKNOWN);
        }
        HeadTrees full = with(0, 0, 0, 0, 0, 0, 0);
        for (int v = 0; v < 4; v++) {
            full.ask(3, v, 0);
        }
        due("answers(NONE): the most", full.answers(NONE), 2401);
        due("answer(NONE, 2400)", full.answer(NONE, 2400), 7777);
        due("answer(NONE, 2401)", full.answer(NONE, 2401), NONE);
    }

    private void answer() {
        promise = "24";
        HeadTrees x = with(2, 0, 2);
        tags(x, 5, 6, 5);
        x.keep();
        due("answer(0, 0), nothing asked", x.answer(0, 0), STATE);
        due("answer(1, 0), nothing asked", x.answer(1, 0), UNKNOWN);
        x.ask(1, 3, 1);
        due("answer(0, 0)", x.answer(0, 0), 102);
        due("answer(0, 1)", x.answer(0, 1), 302);
        due("answer(0, 2)", x.answer(0, 2), NONE);
        due("answer(0, -1)", x.answer(0, -1), NONE);
        due("answer(NONE, 1)", x.answer(NONE, 1), 302);
        x.ask(2, 2, 1);
        due("answer(0, 0): 2 stands ahead of 1", x.answer(0, 0), 312);
        due("answer(0, 1)", x.answer(0, 1), 322);
        due("answers(0)", x.answers(0), 2);
        x.ask(4, 1, 1);
        due("answer(0, 0): there is none", x.answer(0, 0), NONE);
        x.head(2, 3);
        due("answer(NONE, 0): no tree", x.answer(NONE, 0), STATE);
        due("answer(NONE, 99): no tree", x.answer(NONE, 99), STATE);
        due("answer(7, -1)", x.answer(7, -1), UNKNOWN);
        for (int far : FAR) {
            due("answer(" + far + ", 0)", x.answer(far, 0), UNKNOWN);
            due("answer(0, " + far + ")", x.answer(0, far), NONE);
        }
    }

    private void eachSortOfQuestion() {
        int[] heads = {2, 0, 2, 3};
        int[][] want = {{2100, 2300, 2400, 3400}, {2100, 2300, 3400},
            {1200, 1300, 1400, 2300, 2400, 3400}, {2000, 4000},
            {1200, 1300, 1400, 2100, 2300, 2400, 3100, 3200, 3400, 4100, 4200, 4300}};
        for (int sort = 0; sort <= 4; sort++) {
            HeadTrees x = with(heads);
            tags(x, 0, 1, 0, 1);
            x.ask(sort, 0, 1);
            due("answers of sort " + sort, x.answers(NONE), want[sort].length);
            for (int i = 0; i < want[sort].length; i++) {
                due("answer " + i + " of sort " + sort, x.answer(NONE, i), want[sort][i]);
            }
            x.clear();
            x.ask(sort, 1, 1);
            due("answers of sort " + sort + ", 1 and 1", x.answers(NONE), sort == 3 ? 2 : 0);
        }
    }

    private void agreement() {
        agree();
        near();
    }

    private static HeadTrees withKept() {
        HeadTrees x = with(0, 1, 2);
        x.keep();
        draw(x, 0, 1, 1);
        x.keep();
        draw(x, 3, 1, 0);
        x.keep();
        x.words(2);
        x.keep();
        return x;
    }

    private void agree() {
        promise = "25";
        HeadTrees x = withKept();
        due("agree(0, 0)", x.agree(0, 0), 3);
        due("agree(0, 1)", x.agree(0, 1), 2);
        due("agree(1, 2)", x.agree(1, 2), 1);
        due("agree(0, 3): not as many words", x.agree(0, 3), STATE);
        due("agree(NONE, 3)", x.agree(NONE, 3), 2);
        due("agree(3, NONE)", x.agree(3, NONE), 2);
        due("agree(NONE, NONE)", x.agree(NONE, NONE), 2);
        due("agree(NONE, 0): not as many words", x.agree(NONE, 0), STATE);
        draw(x, 2, 1);
        due("agree(NONE, 3): no tree", x.agree(NONE, 3), STATE);
        due("agree(NONE, NONE): no tree", x.agree(NONE, NONE), STATE);
        due("agree(NONE, 4): no tree", x.agree(NONE, 4), UNKNOWN);
        due("agree(4, 3)", x.agree(4, 3), UNKNOWN);
        due("agree(0, -2)", x.agree(0, -2), UNKNOWN);
        x.forget(1);
        due("agree(1, 0): gone", x.agree(1, 0), UNKNOWN);
        due("agree(3, 1): gone", x.agree(3, 1), UNKNOWN);
        for (int far : FAR) {
            due("agree(" + far + ", 0)", x.agree(far, 0), UNKNOWN);
            due("agree(0, " + far + ")", x.agree(0, far), UNKNOWN);
        }
    }

    private void near() {
        promise = "26";
        HeadTrees x = withKept();
        due("near(0, 0)", x.near(0, 0), 3);
        due("near(0, 1): 2 is over 3 in one alone", x.near(0, 1), 2);
        due("near(0, 2): 3 is over all the other way", x.near(0, 2), 1);
        due("near(1, 2)", x.near(1, 2), 1);
        due("near(0, 3): not as many words", x.near(0, 3), STATE);
        due("near(NONE, 3)", x.near(NONE, 3), 1);
        draw(x, 2, 0);
        due("near(3, NONE)", x.near(3, NONE), 0);
        draw(x, 2, 1);
        due("near(3, NONE): no tree", x.near(3, NONE), STATE);
        due("near(NONE, NONE): no tree", x.near(NONE, NONE), STATE);
        due("near(9, NONE): no tree", x.near(9, NONE), UNKNOWN);
        x.forget(1);
        due("near(1, 0): gone", x.near(1, 0), UNKNOWN);
        due("near(0, 1): gone", x.near(0, 1), UNKNOWN);
        due("near(-2, 0)", x.near(-2, 0), UNKNOWN);
        for (int far : FAR) {
            due("near(" + far + ", 0)", x.near(far, 0), UNKNOWN);
            due("near(0, " + far + ")", x.near(0, far), UNKNOWN);
        }
    }

    private void whatIsTold() {
        count();
        digest();
    }

    private void count() {
        promise = "27";
        HeadTrees x = with(0, 1, 2, 3);
        x.keep();
        x.keep();
        x.keep();
        x.forget(1);
        x.ask(0, 0, 1);
        x.ask(0, 0, 1);
        for (int h = 0; h <= 3; h++) {
            x.forbid(h, 4, true);
        }
        x.forbid(4, 1, true);
        x.forbid(0, 4, true);
        int[] want = {4, 2, 2, 5, 3};
        for (int what = 0; what <= 4; what++) {
            due("count(" + what + ")", x.count(what), want[what]);
        }
        due("count(5)", x.count(5), OUTSIDE);
        due("count(-1)", x.count(-1), OUTSIDE);
        for (int far : FAR) {
            due("count(" + far + ")", x.count(far), OUTSIDE);
        }
    }

    private static long digestOf(int... numbers) {
        long h = 139;
        for (int number : numbers) {
            h = 31 * h + number;
        }
        return h;
    }

    private void digest() {
        promise = "28";
        HeadTrees x = new HeadTrees();
        due("digest() of a new object", x.digest(), digestOf(1, 0, 0, 0, 0));
        x.words(2);
        tags(x, 3, 4);
        draw(x, 2, 0);
        x.weight(0, 1, 11);
        x.weight(2, 1, -12);
        x.weight(1, 2, 13);
        x.forbid(2, 1, true);
        due("digest()", x.digest(), digestOf(2, 3, 2, 11, 0, -12, 1, 4, 0, 0, 0, 13, 0));
        x.keep();
        x.keep();
        x.forget(0);
        x.ask(3, 2, 9);
        x.ask(0, 1, 2);
        x.words(1);
        due("digest()", x.digest(), digestOf(1, 0, 0, 0, 0, -1, 2, 3, 2, 4, 0, 3, 2, 9, 0, 1, 2));
        due("digest() again", x.digest(), digestOf(1, 0, 0, 0, 0, -1, 2, 3, 2, 4, 0, 3, 2, 9, 0, 1, 2));
        x.clear();
        due("digest() cleared", x.digest(), digestOf(1, 0, 0, 0, 0, -1, 2, 3, 2, 4, 0));
    }
}
