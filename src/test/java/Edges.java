import java.util.List;
import java.util.Set;
import java.util.TreeSet;
import java.util.function.Supplier;
import java.util.function.ToLongFunction;

/** Boundary cases: each on objects of its own, named by its promise's number and by what is at the edge. */
final class Edges {
    /** A call with one number that is varied. */
    interface Numbered {
        long on(HeadTrees x, int number);
    }

    /** Numbers that name nothing anywhere; some come back to a small one if they are cut off or wrap around. */
    private static final int[] FAR = {Integer.MIN_VALUE, Integer.MIN_VALUE + 1, -65535, -255, -2, 257, 65537,
        (1 << 28) + 1, (1 << 29) + 1, (1 << 30) + 1, Integer.MAX_VALUE};

    private final Check check = new Check();
    private final Set<Integer> promises = new TreeSet<>();
    private String promise = "";

    void promise(int number, String name) {
        promises.add(number);
        promise = "promise " + number + ", " + name + ": ";
    }

    void due(String edge, long got, long want) {
        check.due(promise + edge + ":", got, want);
    }

    void dueHeads(String edge, HeadTrees x, int... heads) {
        due(edge + ", count(0)", x.count(0), heads.length);
        for (int d = 1; d <= heads.length; d++) {
            due(edge + ", headOf(" + d + ")", x.headOf(d), heads[d - 1]);
        }
    }

    /** Tells tags by telling them anew. */
    void dueTags(String edge, HeadTrees x, int... tags) {
        for (int d = 1; d <= tags.length; d++) {
            due(edge + ", TAG of " + d, x.tag(d, tags[d - 1]), tags[d - 1]);
        }
    }

    /** A call that is not refused; the object is handed back for looking further. */
    HeadTrees answers(String edge, Supplier<HeadTrees> scene, ToLongFunction<HeadTrees> call, long want) {
        HeadTrees x = scene.get();
        due(edge, call.applyAsLong(x), want);
        return x;
    }

    /** A call that is refused and changes nothing. */
    void refuses(String edge, Supplier<HeadTrees> scene, ToLongFunction<HeadTrees> call, long want) {
        HeadTrees x = answers(edge, scene, call, want);
        dueAlike(edge, x, scene.get());
    }

    /** A call that only looks: it answers and changes nothing. */
    void tells(String edge, Supplier<HeadTrees> scene, ToLongFunction<HeadTrees> call, long want) {
        refuses(edge, scene, call, want);
    }

    /** Each of these numbers is refused, on an object of its own. */
    void refusesEach(String edge, Supplier<HeadTrees> scene, Numbered call, long want, int... numbers) {
        for (int number : numbers) {
            refuses(edge + " (" + number + ")", scene, x -> call.on(x, number), want);
        }
    }

    /** As refusesEach(), and all numbers that lie far off are refused, too. */
    void refusesEachAndFar(String edge, Supplier<HeadTrees> scene, Numbered call, long want, int... numbers) {
        refusesEach(edge, scene, call, want, numbers);
        refusesEach(edge + ", far off", scene, call, want, FAR);
    }

    /** Two objects can't be told apart from now on. */
    void dueAlike(String edge, HeadTrees x, HeadTrees y) {
        List<String> one = Probe.of(x);
        List<String> other = Probe.of(y);
        for (int i = 0; i < one.size(); i++) {
            if (!one.get(i).equals(other.get(i))) {
                check.holds(promise + edge + ": changes nothing else; behind it " + one.get(i) + ", without it "
                    + other.get(i), false);
                return;
            }
        }
        check.holds(promise + edge, true);
    }

    /** Ends the test, which fails if a promise of its part has no case at all. */
    void end(int from, int to) {
        for (int number = from; number <= to; number++) {
            check.holds("promise " + number + " has boundary cases", promises.contains(number));
        }
        check.end();
    }
}
