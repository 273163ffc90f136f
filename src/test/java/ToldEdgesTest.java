import java.math.BigInteger;
import java.util.ArrayList;
import java.util.List;

/** Boundary cases of promises 27 and 28: what is told. */
public final class ToldEdgesTest {
    private static final int OUTSIDE = -102;

    private final Edges edges = new Edges();

    public static void main(String[] args) {
        ToldEdgesTest test = new ToldEdgesTest();
        test.count();
        test.countOfRefused();
        test.countRefused();
        test.digest();
        test.digestWraps();
        test.digestOfKept();
        test.edges.end(27, 28);
    }

    private void dueCounts(String edge, HeadTrees x, int... want) {
        for (int what = 0; what <= 4; what++) {
            edges.due(edge + ", what = " + what, x.count(what), want[what]);
        }
    }

    /** As many as can be of all that is counted. */
    private static HeadTrees crowded() {
        HeadTrees x = Scenes.words(7);
        for (int k = 0; k < 20; k++) {
            x.keep();
        }
        for (int q = 0; q < 6; q++) {
            x.ask(4, 3, 2);
        }
        for (int d = 1; d <= 7; d++) {
            for (int h = 0; h <= 7; h++) {
                x.forbid(h, d, true);
            }
        }
        return x;
    }

    private void count() {
        edges.promise(27, "count");
        dueCounts("the least of all", new HeadTrees(), 1, 0, 0, 0, 0);
        dueCounts("the most of all", crowded(), 7, 20, 6, 49, 20);
        dueCounts("a busy object", Scenes.busy(), 3, 3, 2, 1, 4);
        dueCounts("no TREE at hand", Scenes.circle(), 3, 3, 2, 1, 4);
        HeadTrees gone = crowded();
        for (int k = 0; k < 20; k++) {
            gone.forget(k);
        }
        dueCounts("all KEPT ones are gone", gone, 7, 0, 6, 49, 20);
        HeadTrees shorter = crowded();
        shorter.words(1);
        shorter.clear();
        dueCounts("nothing FORBIDDEN, nothing ASKED any more", shorter, 1, 20, 0, 0, 20);
        HeadTrees recalled = crowded();
        recalled.recall(19);
        dueCounts("nothing FORBIDDEN when recalled", recalled, 7, 20, 6, 0, 20);
        for (int what = 0; what <= 4; what++) {
            int which = what;
            int want = new int[] {3, 3, 2, 1, 4}[what];
            edges.tells("what = " + what, Scenes::busy, x -> x.count(which), want);
        }
    }

    private void countOfRefused() {
        HeadTrees x = crowded();
        x.words(8);
        x.keep();
        x.ask(0, 0, 1);
        x.forbid(0, 0, true);
        x.forbid(0, 1, true);
        x.forget(20);
        dueCounts("refused calls count for nothing", x, 7, 20, 6, 49, 20);
        x.forget(7);
        x.forget(7);
        dueCounts("one that goes twice goes once", x, 7, 19, 6, 49, 20);
    }

    private void countRefused() {
        edges.refusesEachAndFar("what is OUTSIDE", Scenes::busy, HeadTrees::count, OUTSIDE, -1, 5, 6);
        edges.refusesEach("what is OUTSIDE of a new object", HeadTrees::new, HeadTrees::count, OUTSIDE, -1, 5);
    }

    private static long digestOf(List<Integer> numbers) {
        BigInteger h = BigInteger.valueOf(139);
        for (int number : numbers) {
            h = h.multiply(BigInteger.valueOf(31)).add(BigInteger.valueOf(number));
        }
        return h.longValue();
    }

    private void digest() {
        edges.promise(28, "digest");
        edges.tells("a new object", HeadTrees::new, HeadTrees::digest, digestOf(List.of(1, 0, 0, 0, 0)));
        edges.tells("a FORBIDDEN HEAD of the least WEIGHT", () -> {
            HeadTrees x = new HeadTrees();
            x.weight(0, 1, -1000000);
            x.forbid(0, 1, true);
            return x;
        }, HeadTrees::digest, digestOf(List.of(1, 0, 0, -1000000, 1)));
        List<Integer> busy = new ArrayList<>(List.of(3, 7, 2, 0, 0, 70, 0, 70, 0));
        busy.addAll(List.of(8, 0, -30, 0, 0, 0, 0, 0));
        busy.addAll(List.of(9, 2, 0, 0, 0, 1, 5, 0));
        busy.addAll(List.of(5, 1, 2, 2, 0, 3, 2, 1, 5, 2, 3));
        busy.addAll(List.of(-1, 3, 4, 0, 9, 1, 0, 2));
        busy.addAll(List.of(3, 4, 3, 9, 0, 0, 2));
        List<Integer> unasked = new ArrayList<>(busy);
        busy.addAll(List.of(0, 0, 1, 4, 1, 2));
        edges.tells("a busy object", Scenes::busy, HeadTrees::digest, digestOf(busy));
        edges.tells("nothing ASKED", Scenes::unasked, HeadTrees::digest, digestOf(unasked));
        busy.set(busy.indexOf(8) + 1, 1);
        edges.tells("no TREE at hand", Scenes::circle, HeadTrees::digest, digestOf(busy));
    }

    private static HeadTrees heavy(int w) {
        HeadTrees x = Scenes.with(7, 7, 7, 7, 7, 7, 0);
        Scenes.tags(x, 9, 9, 9, 9, 9, 9, 9);
        for (int d = 1; d <= 7; d++) {
            for (int h = 0; h <= 7; h++) {
                x.weight(h, d, w);
            }
        }
        return x;
    }

    private void digestWraps() {
        for (int w : new int[] {1000000, -1000000}) {
            List<Integer> numbers = new ArrayList<>(List.of(7));
            for (int d = 1; d <= 7; d++) {
                numbers.addAll(List.of(9, d == 7 ? 0 : 7));
                for (int h = 0; h < 7; h++) {
                    numbers.addAll(List.of(w, 0));
                }
            }
            edges.tells("it wraps, WEIGHTS " + w, () -> heavy(w), HeadTrees::digest, digestOf(numbers));
        }
    }

    private void digestOfKept() {
        HeadTrees x = new HeadTrees();
        x.tag(1, 9);
        List<Integer> numbers = new ArrayList<>(List.of(1, 9, 0, 0, 0));
        for (int k = 0; k < 20; k++) {
            x.keep();
            numbers.addAll(List.of(1, 9, 0));
            edges.due("KEPT ones, " + (k + 1), x.digest(), digestOf(numbers));
        }
        x.keep();
        edges.due("one refused as FULL", x.digest(), digestOf(numbers));
        List<Integer> gone = new ArrayList<>(List.of(1, 9, 0, 0, 0));
        for (int k = 0; k < 20; k++) {
            x.forget(k);
            gone.add(-1);
        }
        edges.due("all are gone", x.digest(), digestOf(gone));
        for (int q = 0; q < 7; q++) {
            x.ask(3, 3, 9);
            gone.addAll(q < 6 ? List.of(3, 3, 9) : List.of());
        }
        edges.due("the most ASKED, and one refused", x.digest(), digestOf(gone));
    }
}
