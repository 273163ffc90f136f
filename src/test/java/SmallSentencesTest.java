import java.util.ArrayList;
import java.util.List;

/**
 * Short sentences, where nothing need be left out: every drawing of heads, every set of forbidden heads, every two
 * trees, every question. What is due is read off the document's terms once more, apart from PlainTrees: here all is
 * told from who is over whom, found by joining ways until no new one comes.
 */
public final class SmallSentencesTest {
    private static final int NO_TREE = -100000000;

    private final Check check = new Check();

    public static void main(String[] args) {
        SmallSentencesTest test = new SmallSentencesTest();
        for (int n = 1; n <= 5; n++) {
            for (int[] heads : drawings(n)) {
                test.aDrawing(heads);
            }
        }
        for (int n = 1; n <= 3; n++) {
            test.everyForbiddenSet(n);
        }
        test.everyForbiddenSetOfFour();
        for (int n = 1; n <= 4; n++) {
            test.everyTwoTrees(n);
        }
        test.everyQuestion();
        test.everyTreeLearned();
        test.check.end();
    }

    // ---- the document's terms

    /** Heads by words from 1 on; row 0 is not used. */
    private static List<int[]> drawings(int n) {
        List<int[]> all = new ArrayList<>();
        all.add(new int[n + 1]);
        for (int d = 1; d <= n; d++) {
            List<int[]> more = new ArrayList<>();
            for (int[] heads : all) {
                for (int h = 0; h <= n; h++) {
                    if (h != d) {
                        int[] next = heads.clone();
                        next[d] = h;
                        more.add(next);
                    }
                }
            }
            all = more;
        }
        return all;
    }

    private static List<int[]> trees(int n) {
        List<int[]> all = new ArrayList<>();
        for (int[] heads : drawings(n)) {
            if (isTree(ways(heads))) {
                all.add(heads);
            }
        }
        return all;
    }

    /** ways[a][b]: one comes from b to a by going from head to head. */
    private static boolean[][] ways(int[] heads) {
        int n = heads.length - 1;
        boolean[][] ways = new boolean[n + 1][n + 1];
        for (int d = 1; d <= n; d++) {
            ways[heads[d]][d] = true;
        }
        for (int by = 1; by <= n; by++) {
            for (int a = 0; a <= n; a++) {
                for (int b = 1; b <= n; b++) {
                    ways[a][b] |= ways[a][by] && ways[by][b];
                }
            }
        }
        return ways;
    }

    private static boolean isTree(boolean[][] ways) {
        boolean is = true;
        for (int d = 1; d < ways.length; d++) {
            is &= ways[0][d];
        }
        return is;
    }

    private static boolean isSmooth(int[] heads, boolean[][] ways) {
        boolean is = true;
        for (int d = 1; d < heads.length; d++) {
            for (int w = 1; w < heads.length; w++) {
                boolean between = w > d && w < heads[d] || w < d && w > heads[d];
                is &= !between || ways[heads[d]][w];
            }
        }
        return is;
    }

    /** A weight for each head and word; few of them are alike. */
    private static int weightOf(int h, int d) {
        return (h * 31 + d * 17) * 7919 % 23 - 11;
    }

    private static int sumOf(int[] heads) {
        int sum = 0;
        for (int d = 1; d < heads.length; d++) {
            sum += weightOf(heads[d], d);
        }
        return sum;
    }

    /** Whether the one comes ahead of the other in order; their numbers of words are alike. */
    private static boolean isAhead(int[] one, int[] other) {
        if (sumOf(one) != sumOf(other)) {
            return sumOf(one) > sumOf(other);
        }
        for (int d = 1; d < one.length; d++) {
            if (one[d] != other[d]) {
                return one[d] < other[d];
            }
        }
        return false;
    }

    private static List<int[]> inOrder(List<int[]> trees) {
        List<int[]> sorted = new ArrayList<>();
        for (int[] tree : trees) {
            int at = 0;
            while (at < sorted.size() && isAhead(sorted.get(at), tree)) {
                at++;
            }
            sorted.add(at, tree);
        }
        return sorted;
    }

    private static String named(int[] heads) {
        StringBuilder name = new StringBuilder("heads");
        for (int d = 1; d < heads.length; d++) {
            name.append(' ').append(heads[d]);
        }
        return name.toString();
    }

    // ---- objects

    private static void draw(HeadTrees x, int[] heads) {
        for (int d = 1; d < heads.length; d++) {
            x.head(d, heads[d]);
        }
    }

    private static HeadTrees weighed(int n) {
        HeadTrees x = new HeadTrees();
        x.words(n);
        for (int d = 1; d <= n; d++) {
            for (int h = 0; h <= n; h++) {
                x.weight(h, d, weightOf(h, d));
            }
        }
        return x;
    }

    // ---- promises 9 to 12

    private void aDrawing(int[] heads) {
        int n = heads.length - 1;
        String name = named(heads);
        boolean[][] ways = ways(heads);
        HeadTrees x = weighed(n);
        draw(x, heads);
        int kind = !isTree(ways) ? 0 : isSmooth(heads, ways) ? 2 : 1;
        check.due("promise 9, " + name + ": is()", x.is(), kind + 4);
        check.due("promise 10, " + name + ": sum()", x.sum(), sumOf(heads));
        for (int b = 1; b <= n; b++) {
            for (int a = 0; a <= n; a++) {
                long want = kind == 0 ? HeadTrees.STATE : ways[a][b] ? 1 : 0;
                check.due("promise 11, " + name + ": over(" + a + ", " + b + ")", x.over(a, b), want);
            }
            for (int what = 0; what < 4; what++) {
                long want = kind == 0 ? HeadTrees.STATE : about(ways, b, what);
                check.due("promise 12, " + name + ": about(" + b + ", " + what + ")", x.about(b, what), want);
            }
            x.forbid(heads[b], b, true);
            check.due("promise 9, " + name + ", the head of " + b + " forbidden: is()", x.is(), kind);
            x.forbid(heads[b], b, false);
        }
    }

    private static int about(boolean[][] ways, int d, int what) {
        int between = 0;
        int below = 0;
        int first = d;
        int last = d;
        for (int w = 1; w < ways.length; w++) {
            between += ways[w][d] ? 1 : 0;
            if (ways[d][w]) {
                below++;
                first = Math.min(first, w);
                last = Math.max(last, w);
            }
        }
        return new int[] {between, below, first, last}[what];
    }

    // ---- promises 13 to 15

    private static boolean isAllowed(int[] heads, long forbidden) {
        for (int d = 1; d < heads.length; d++) {
            if ((forbidden >> bitOf(heads[d], d, heads.length - 1) & 1) != 0) {
                return false;
            }
        }
        return true;
    }

    private static int bitOf(int h, int d, int n) {
        return (d - 1) * n + (h < d ? h : h - 1);
    }

    private static void forbidAll(HeadTrees x, int n, long forbidden) {
        for (int d = 1; d <= n; d++) {
            for (int h = 0; h <= n; h++) {
                if (h != d && (forbidden >> bitOf(h, d, n) & 1) != 0) {
                    x.forbid(h, d, true);
                }
            }
        }
    }

    private static List<int[]> ofSort(List<int[]> trees, int sort) {
        List<int[]> found = new ArrayList<>();
        for (int[] tree : trees) {
            if (sort == 0 || isSmooth(tree, ways(tree))) {
                found.add(tree);
            }
        }
        return found;
    }

    private void everyForbiddenSet(int n) {
        List<int[]> trees = inOrder(trees(n));
        for (int sort = 0; sort <= 1; sort++) {
            List<int[]> sorted = ofSort(trees, sort);
            for (long forbidden = 0; forbidden < 1L << n * n; forbidden++) {
                List<int[]> allowed = new ArrayList<>();
                for (int[] tree : sorted) {
                    if (isAllowed(tree, forbidden)) {
                        allowed.add(tree);
                    }
                }
                HeadTrees x = weighed(n);
                forbidAll(x, n, forbidden);
                everyRank(n + " words, forbidden " + Long.toBinaryString(forbidden), x, sort, allowed);
            }
        }
    }

    private void everyRank(String name, HeadTrees x, int sort, List<int[]> allowed) {
        check.due("promise 14, " + name + ": trees(" + sort + ")", x.trees(sort), allowed.size());
        for (int k = 0; k <= 30; k++) {
            String call = name + ": best(" + sort + ", " + k + ")";
            if (k >= allowed.size()) {
                check.due("promise 13, " + call, x.best(sort, k), NO_TREE);
                continue;
            }
            int[] heads = allowed.get(k);
            check.due("promise 13, " + call, x.best(sort, k), sumOf(heads));
            for (int d = 1; d < heads.length; d++) {
                check.due("promise 13, " + call + ", then headOf(" + d + ")", x.headOf(d), heads[d]);
            }
            check.due("promise 15, " + call + ", then rank()", x.rank(sort), k);
        }
    }

    private void everyForbiddenSetOfFour() {
        int n = 4;
        List<int[]> trees = inOrder(trees(n));
        List<int[]> smooth = ofSort(trees, 1);
        for (long forbidden = 0; forbidden < 1L << n * n; forbidden++) {
            HeadTrees x = weighed(n);
            forbidAll(x, n, forbidden);
            String name = "4 words, forbidden " + Long.toBinaryString(forbidden);
            howManyAndFirst(name, x, 0, trees, forbidden);
            howManyAndFirst(name, x, 1, smooth, forbidden);
        }
    }

    private void howManyAndFirst(String name, HeadTrees x, int sort, List<int[]> sorted, long forbidden) {
        int many = 0;
        int first = NO_TREE;
        for (int[] tree : sorted) {
            if (isAllowed(tree, forbidden)) {
                first = many == 0 ? sumOf(tree) : first;
                many++;
            }
        }
        check.due("promise 14, " + name + ": trees(" + sort + ")", x.trees(sort), many);
        check.due("promise 13, " + name + ": best(" + sort + ", 0)", x.best(sort, 0), first);
        check.due("promise 15, " + name + ": rank(" + sort + ")", x.rank(sort), many == 0 ? HeadTrees.NONE : 0);
    }

    // ---- promises 25, 26

    private void everyTwoTrees(int n) {
        List<int[]> trees = trees(n);
        for (int[] one : trees) {
            for (int[] other : trees) {
                HeadTrees x = new HeadTrees();
                x.words(n);
                draw(x, one);
                x.keep();
                draw(x, other);
                String name = named(one) + ", then " + named(other);
                check.due("promise 25, " + name + ": agree()", x.agree(0, HeadTrees.NONE), likeHeads(one, other));
                check.due("promise 26, " + name + ": near()", x.near(0, HeadTrees.NONE), likePairs(one, other));
            }
        }
    }

    private static int likeHeads(int[] one, int[] other) {
        int like = 0;
        for (int d = 1; d < one.length; d++) {
            like += one[d] == other[d] ? 1 : 0;
        }
        return like;
    }

    private static int likePairs(int[] one, int[] other) {
        boolean[][] first = ways(one);
        boolean[][] second = ways(other);
        int like = 0;
        for (int a = 1; a < one.length; a++) {
            for (int b = a + 1; b < one.length; b++) {
                boolean downInBoth = first[a][b] && second[a][b];
                boolean upInBoth = first[b][a] && second[b][a];
                boolean noneInBoth = !first[a][b] && !first[b][a] && !second[a][b] && !second[b][a];
                like += downInBoth || upInBoth || noneInBoth ? 1 : 0;
            }
        }
        return like;
    }

    // ---- promises 21 to 24

    private void everyQuestion() {
        int[][] things = everyThing();
        for (int[] heads : trees(3)) {
            for (int[] thing : things) {
                questions(heads, thing);
            }
        }
        for (int[] one : things) {
            for (int[] other : things) {
                questions(new int[] {0, 3, 1, 0, 1}, one, other);
            }
        }
    }

    private static int[][] everyThing() {
        List<int[]> things = new ArrayList<>();
        for (int sort = 0; sort <= 4; sort++) {
            for (int x = 0; x <= 3; x++) {
                for (int y = 0; y <= (sort == 3 ? 9 : 3); y++) {
                    things.add(new int[] {sort, x, y});
                }
            }
        }
        return things.toArray(new int[0][]);
    }

    private static int tagOf(int d) {
        return d == 2 ? 3 : d % 2;
    }

    private void questions(int[] heads, int[]... things) {
        HeadTrees x = new HeadTrees();
        x.words(heads.length - 1);
        for (int d = 1; d < heads.length; d++) {
            x.tag(d, tagOf(d));
        }
        draw(x, heads);
        x.keep();
        StringBuilder name = new StringBuilder(named(heads)).append(", asked");
        for (int[] thing : things) {
            x.ask(thing[0], thing[1], thing[2]);
            name.append(" (").append(thing[0]).append(' ').append(thing[1]).append(' ').append(thing[2]).append(')');
        }
        List<Integer> due = answersOf(heads, things);
        check.due("promise 23, " + name + ": answers(0)", x.answers(0), due.size());
        check.due("promise 23, " + name + ": answers(NONE)", x.answers(HeadTrees.NONE), due.size());
        for (int i = 0; i <= Math.min(due.size(), 450); i++) {
            long want = i < due.size() ? due.get(i) : HeadTrees.NONE;
            check.due("promise 24, " + name + ": answer(0, " + i + ")", x.answer(0, i), want);
        }
    }

    private static List<Integer> answersOf(int[] heads, int[][] things) {
        int n = heads.length - 1;
        boolean[][] ways = ways(heads);
        List<Integer> found = new ArrayList<>();
        for (int number = 0; number <= 1111 * n; number++) {
            int[] values = {number / 1000, number / 100 % 10, number / 10 % 10, number % 10};
            boolean is = true;
            boolean[] askedOf = new boolean[4];
            for (int[] thing : things) {
                askedOf[thing[1]] = true;
                askedOf[thing[2] % 4] |= thing[0] != 3;
            }
            for (int v = 0; v < 4; v++) {
                is &= askedOf[v] ? values[v] >= 1 && values[v] <= n : values[v] == 0;
            }
            for (int i = 0; is && i < things.length; i++) {
                is = holds(heads, ways, things[i], values);
            }
            if (is) {
                found.add(number);
            }
        }
        return found;
    }

    private static boolean holds(int[] heads, boolean[][] ways, int[] thing, int[] values) {
        int x = values[thing[1]];
        if (thing[0] == 3) {
            return tagOf(x) == thing[2];
        }
        int y = values[thing[2]];
        return thing[0] == 0 && ways[x][y] || thing[0] == 1 && heads[y] == x || thing[0] == 2 && x < y
            || thing[0] == 4 && x != y;
    }

    // ---- promises 16 to 20

    /** All sixteen trees of three words are kept, one after the other, and then forgotten so. */
    private void everyTreeLearned() {
        List<int[]> trees = trees(3);
        for (int step = 0; step <= 2 * trees.size(); step++) {
            HeadTrees x = new HeadTrees();
            x.words(3);
            for (int d = 1; d <= 3; d++) {
                x.tag(d, tagOf(d));
            }
            int kept = Math.min(step, trees.size());
            int gone = step - kept;
            for (int k = 0; k < kept; k++) {
                draw(x, trees.get(k));
                check.due("promise 16, keep() of tree " + k, x.keep(), k);
            }
            for (int k = 0; k < gone; k++) {
                check.due("promise 17, forget(" + k + ")", x.forget(k), 3);
            }
            String name = kept + " kept, " + gone + " gone";
            everyCount(name, x, trees.subList(gone, kept));
            everyWeight(name, x, trees.subList(gone, kept));
        }
    }

    private void everyCount(String name, HeadTrees x, List<int[]> trees) {
        for (int a = 0; a <= 10; a++) {
            for (int b = 0; b <= 9; b++) {
                for (int side = 0; side <= 1; side++) {
                    String call = "promise 19, " + name + ": table(" + a + ", " + b + ", " + side + ")";
                    check.due(call, x.table(a, b, side), counted(trees, a, b, side));
                }
            }
        }
    }

    private void everyWeight(String name, HeadTrees x, List<int[]> trees) {
        int all = 0;
        for (int d = 1; d <= 3; d++) {
            for (int h = 0; h <= 3; h++) {
                if (h != d) {
                    all += weightLearned(trees, h, d);
                }
            }
        }
        check.due("promise 20, " + name + ": learn()", x.learn(), all);
        for (int d = 1; d <= 3; d++) {
            for (int h = 0; h <= 3; h++) {
                long want = h == d ? -2000000 : weightLearned(trees, h, d);
                check.due("promise 20, " + name + ": weighs(" + h + ", " + d + ")", x.weighs(h, d), want);
            }
        }
    }

    private static int counted(List<int[]> trees, int a, int b, int side) {
        int many = 0;
        for (int[] heads : trees) {
            for (int d = 1; d < heads.length; d++) {
                int h = heads[d];
                boolean isSide = side == (h == 0 || h < d ? 0 : 1);
                many += isSide && tagOf(d) == b && (h == 0 ? 10 : tagOf(h)) == a ? 1 : 0;
            }
        }
        return many;
    }

    private static int weightLearned(List<int[]> trees, int h, int d) {
        int together = 0;
        for (int a = 0; a <= 10; a++) {
            together += counted(trees, a, tagOf(d), 0) + counted(trees, a, tagOf(d), 1);
        }
        int count = counted(trees, h == 0 ? 10 : tagOf(h), tagOf(d), h < d ? 0 : 1);
        return 1000 * (count + 1) / (together + 21);
    }
}
