/** Boundary cases of promises 21 to 24: questions. */
public final class QuestionsEdgesTest {
    private static final int NONE = -1;
    private static final int UNKNOWN = -101;
    private static final int OUTSIDE = -102;
    private static final int STATE = -103;
    private static final int FULL = -104;
    private static final int ASK_TAG = 3;

    private final Edges edges = new Edges();

    public static void main(String[] args) {
        QuestionsEdgesTest test = new QuestionsEdgesTest();
        test.ask();
        test.askOutside();
        test.askFull();
        test.clear();
        test.answers();
        test.answersOfVariables();
        test.answersOfEachSort();
        test.answersRefused();
        test.answer();
        test.answerNumbers();
        test.answerRefused();
        test.edges.end(21, 24);
    }

    /** A sentence with these heads of which things are asked, each as sort, x, y. */
    private static HeadTrees asked(int[] heads, int[]... things) {
        HeadTrees x = Scenes.with(heads);
        for (int[] thing : things) {
            x.ask(thing[0], thing[1], thing[2]);
        }
        return x;
    }

    /** Seven words of one tag, of all four variables: the most answers that can be. */
    private static HeadTrees most() {
        return asked(new int[7], new int[] {3, 0, 0}, new int[] {3, 1, 0}, new int[] {3, 2, 0}, new int[] {3, 3, 0});
    }

    private static HeadTrees circleUnasked() {
        HeadTrees x = Scenes.circle();
        x.clear();
        return x;
    }

    private static HeadTrees circleFullOfAsked() {
        HeadTrees x = Scenes.fullOfAsked();
        x.head(2, 1);
        return x;
    }

    private void ask() {
        edges.promise(21, "ask");
        HeadTrees x = new HeadTrees();
        for (int many = 1; many <= 6; many++) {
            edges.due("thing " + many, x.ask(0, 0, 1), many);
            edges.due("things " + many, x.count(2), many);
        }
        edges.due("a seventh thing", x.ask(0, 0, 1), FULL);
        edges.due("six things stay", x.count(2), 6);
        for (int sort = 0; sort <= 4; sort++) {
            int which = sort;
            int last = sort == ASK_TAG ? 9 : 3;
            edges.answers("least x and y of sort " + sort, HeadTrees::new, y -> y.ask(which, 0, 0), 1);
            edges.answers("greatest x of sort " + sort, HeadTrees::new, y -> y.ask(which, 3, 0), 1);
            edges.answers("greatest y of sort " + sort, HeadTrees::new, y -> y.ask(which, 0, last), 1);
            edges.answers("x is y of sort " + sort, HeadTrees::new, y -> y.ask(which, 3, 3), 1);
        }
        for (int tag = 4; tag <= 9; tag++) {
            int t = tag;
            edges.answers("TAG " + tag + ", greater than a VARIABLE", HeadTrees::new, y -> y.ask(ASK_TAG, 0, t), 1);
        }
        edges.answers("no TREE at hand", Scenes::circle, y -> y.ask(0, 0, 1), 3);
    }

    private void askOutside() {
        edges.refusesEachAndFar("sort", Scenes::busy, (x, sort) -> x.ask(sort, 0, 0), OUTSIDE, -1, 5, 6);
        for (int sort = 0; sort <= 4; sort++) {
            int which = sort;
            int last = sort == ASK_TAG ? 9 : 3;
            edges.refusesEachAndFar("x of sort " + sort, Scenes::busy, (x, v) -> x.ask(which, v, 0), OUTSIDE, -1, 4, 9);
            edges.refusesEachAndFar("y of sort " + sort, Scenes::busy, (x, v) -> x.ask(which, 0, v), OUTSIDE, -1,
                last + 1, 10);
        }
        edges.refuses("a TAG for y of no such sort", Scenes::busy, x -> x.ask(5, 0, 9), OUTSIDE);
        edges.refuses("THE ROOT's TAG", Scenes::busy, x -> x.ask(ASK_TAG, 0, 10), OUTSIDE);
        edges.refuses("no TREE at hand", Scenes::circle, x -> x.ask(0, 0, 4), OUTSIDE);
    }

    private void askFull() {
        edges.refuses("a seventh", Scenes::fullOfAsked, x -> x.ask(2, 1, 2), FULL);
        edges.refuses("a seventh of another sort", Scenes::fullOfAsked, x -> x.ask(ASK_TAG, 3, 9), FULL);
        edges.refuses("OUTSIDE ahead of FULL, sort", Scenes::fullOfAsked, x -> x.ask(5, 0, 0), OUTSIDE);
        edges.refuses("OUTSIDE ahead of FULL, x", Scenes::fullOfAsked, x -> x.ask(0, 4, 0), OUTSIDE);
        edges.refuses("OUTSIDE ahead of FULL, y", Scenes::fullOfAsked, x -> x.ask(0, 0, 4), OUTSIDE);
        edges.refuses("OUTSIDE ahead of FULL, y of sort 3", Scenes::fullOfAsked, x -> x.ask(3, 0, 10), OUTSIDE);
    }

    private void clear() {
        edges.promise(22, "clear");
        edges.tells("nothing was ASKED", Scenes::unasked, HeadTrees::clear, 0);
        edges.tells("nothing was ASKED of a new object", HeadTrees::new, HeadTrees::clear, 0);
        HeadTrees x = edges.answers("all that can be ASKED", Scenes::fullOfAsked, HeadTrees::clear, 6);
        edges.due("nothing is ASKED", x.count(2), 0);
        edges.due("nothing is ASKED to answer", x.answers(NONE), STATE);
        edges.due("cleared again", x.clear(), 0);
        for (int many = 1; many <= 6; many++) {
            edges.due("room for " + many + " again", x.ask(2, 0, 1), many);
        }
        edges.due("room for no more", x.ask(2, 0, 1), FULL);
        HeadTrees cleared = edges.answers("what else there is stays", Scenes::fullOfAsked, HeadTrees::clear, 6);
        edges.dueAlike("what else there is stays", cleared, Scenes.unasked());
        edges.answers("no TREE at hand", Scenes::circle, HeadTrees::clear, 2);
    }

    private void answers() {
        edges.promise(23, "answers");
        edges.tells("THE TREE at hand", Scenes::busy, x -> x.answers(NONE), 4);
        edges.tells("the first KEPT one", Scenes::busy, x -> x.answers(0), 28);
        edges.tells("the newest KEPT one", Scenes::busy, x -> x.answers(3), 6);
        edges.tells("a KEPT one, no TREE at hand", Scenes::circle, x -> x.answers(3), 6);
        edges.tells("the last of 20", Scenes::fullOfKept, x -> x.answers(19), 4);
        edges.tells("the most things ASKED", Scenes::fullOfAsked, x -> x.answers(NONE), 2);
        edges.tells("the most ANSWERS", QuestionsEdgesTest::most, x -> x.answers(NONE), 2401);
        edges.tells("no ANSWER", () -> asked(new int[] {0}, new int[] {0, 0, 1}), x -> x.answers(NONE), 0);
        edges.tells("one WORD", () -> asked(new int[] {0}, new int[] {3, 0, 0}), x -> x.answers(NONE), 1);
        edges.tells("one WORD for all VARIABLES", () -> asked(new int[] {0}, new int[] {3, 0, 0}, new int[] {3, 1, 0},
            new int[] {3, 2, 0}, new int[] {3, 3, 0}), x -> x.answers(NONE), 1);
        edges.tells("a TAG that no WORD has", () -> asked(new int[7], new int[] {3, 0, 9}), x -> x.answers(NONE), 0);
        int[] thing = {2, 0, 1};
        edges.tells("the same thing six times", () -> asked(new int[7], thing, thing, thing, thing, thing, thing),
            x -> x.answers(NONE), 21);
        edges.tells("things that can't hold together", () -> asked(new int[7], thing, new int[] {2, 1, 0}),
            x -> x.answers(NONE), 0);
    }

    private void answersOfVariables() {
        for (int v = 0; v <= 3; v++) {
            int which = v;
            edges.tells("VARIABLE " + v + " alone", () -> asked(new int[7], new int[] {3, which, 0}),
                x -> x.answers(NONE), 7);
            edges.tells("a TAG is no VARIABLE, " + v, () -> {
                HeadTrees x = asked(new int[7], new int[] {3, 0, which});
                Scenes.tags(x, 0, 1, 2, 3, 0, 1, 2);
                return x;
            }, x -> x.answers(NONE), which == 3 ? 1 : 2);
        }
        edges.tells("y alone is asked of, too", () -> asked(new int[7], new int[] {2, 3, 0}), x -> x.answers(NONE), 21);
        edges.tells("by the TAGS of the KEPT one", () -> {
            HeadTrees x = Scenes.unasked();
            x.ask(ASK_TAG, 0, 9);
            return x;
        }, x -> 10 * x.answer(2, 0) + x.answers(2), 20001);
        edges.tells("by the TAGS at hand", () -> {
            HeadTrees x = Scenes.unasked();
            x.ask(ASK_TAG, 0, 9);
            return x;
        }, x -> 10 * x.answer(NONE, 0) + x.answers(NONE), 30001);
    }

    private void dueSort(String edge, int[] heads, int[] thing, int want) {
        edges.tells(edge, () -> asked(heads, thing), x -> x.answers(NONE), want);
    }

    private void answersOfEachSort() {
        int[] flat = new int[7];
        int[] chain = {0, 1, 2, 3, 4, 5, 6};
        dueSort("THE ROOT is over all and no ANSWER", flat, new int[] {0, 0, 1}, 0);
        dueSort("OVER, the longest way", chain, new int[] {0, 0, 1}, 21);
        dueSort("THE ROOT is a HEAD and no ANSWER", flat, new int[] {1, 0, 1}, 0);
        dueSort("HEAD, the longest way", chain, new int[] {1, 0, 1}, 6);
        dueSort("ahead", flat, new int[] {2, 0, 1}, 21);
        dueSort("TAG", flat, new int[] {3, 0, 0}, 7);
        dueSort("not the same", flat, new int[] {4, 0, 1}, 42);
        dueSort("over itself", chain, new int[] {0, 2, 2}, 0);
        dueSort("HEAD of itself", chain, new int[] {1, 2, 2}, 0);
        dueSort("ahead of itself", chain, new int[] {2, 2, 2}, 0);
        dueSort("not itself", chain, new int[] {4, 2, 2}, 0);
    }

    private void answersRefused() {
        edges.refusesEachAndFar("no such number", Scenes::busy, HeadTrees::answers, UNKNOWN, -2, 4, 19, 20);
        edges.refuses("gone", Scenes::busy, x -> x.answers(1), UNKNOWN);
        edges.refuses("no such number of 20", Scenes::fullOfKept, x -> x.answers(20), UNKNOWN);
        edges.refuses("nothing ASKED, at hand", Scenes::unasked, x -> x.answers(NONE), STATE);
        edges.refuses("nothing ASKED, a KEPT one", Scenes::unasked, x -> x.answers(0), STATE);
        edges.refuses("no TREE at hand", Scenes::circle, x -> x.answers(NONE), STATE);
        edges.refuses("no TREE at hand, the most ASKED", QuestionsEdgesTest::circleFullOfAsked, x -> x.answers(NONE),
            STATE);
        edges.refuses("neither ASKED nor a TREE", QuestionsEdgesTest::circleUnasked, x -> x.answers(NONE), STATE);
        edges.refusesEach("UNKNOWN ahead of nothing ASKED", Scenes::unasked, HeadTrees::answers, UNKNOWN, -2, 1, 4);
        edges.refusesEach("UNKNOWN ahead of no TREE", Scenes::circle, HeadTrees::answers, UNKNOWN, -2, 1, 4);
    }

    private void answer() {
        edges.promise(24, "answer");
        edges.tells("the first", Scenes::busy, x -> x.answer(NONE, 0), 2120);
        edges.tells("the last", Scenes::busy, x -> x.answer(NONE, 3), 2320);
        edges.tells("the first of a KEPT one", Scenes::busy, x -> x.answer(3, 0), 2120);
        edges.tells("the last of a KEPT one", Scenes::busy, x -> x.answer(3, 5), 3130);
        edges.tells("a KEPT one, no TREE at hand", Scenes::circle, x -> x.answer(3, 5), 3130);
        edges.tells("the first of most", QuestionsEdgesTest::most, x -> x.answer(NONE, 0), 1111);
        edges.tells("VARIABLE 3 goes on first", QuestionsEdgesTest::most, x -> x.answer(NONE, 1), 1112);
        edges.tells("then VARIABLE 2", QuestionsEdgesTest::most, x -> x.answer(NONE, 7), 1121);
        edges.tells("then VARIABLE 1", QuestionsEdgesTest::most, x -> x.answer(NONE, 49), 1211);
        edges.tells("then VARIABLE 0", QuestionsEdgesTest::most, x -> x.answer(NONE, 343), 2111);
        edges.tells("the last of most", QuestionsEdgesTest::most, x -> x.answer(NONE, 2400), 7777);
        for (int v = 0; v <= 3; v++) {
            int which = v;
            int times = new int[] {1000, 100, 10, 1}[v];
            edges.tells("VARIABLE " + v + " alone, others are 0", () -> asked(new int[7], new int[] {3, which, 0}),
                x -> x.answer(NONE, 6), 7 * times);
        }
    }

    private void answerNumbers() {
        edges.refusesEach("there is none, i", Scenes::busy, (x, i) -> x.answer(NONE, i), NONE, -1, 4, 5,
            Integer.MIN_VALUE, Integer.MAX_VALUE);
        edges.refusesEach("there is none of a KEPT one, i", Scenes::busy, (x, i) -> x.answer(3, i), NONE, -1, 6, 7,
            Integer.MIN_VALUE, Integer.MAX_VALUE);
        edges.refusesEach("there is none behind most, i", QuestionsEdgesTest::most, (x, i) -> x.answer(NONE, i), NONE,
            -1, 2401);
        edges.refusesEach("there is none at all, i", () -> asked(new int[] {0}, new int[] {0, 0, 1}),
            (x, i) -> x.answer(NONE, i), NONE, -1, 0, 1);
        HeadTrees x = Scenes.busy();
        edges.due("behind one that there is", x.answer(NONE, 3), 2320);
        edges.due("one that there is not", x.answer(NONE, 4), NONE);
    }

    private void answerRefused() {
        edges.refusesEachAndFar("no such number", Scenes::busy, (x, k) -> x.answer(k, 0), UNKNOWN, -2, 4, 19, 20);
        edges.refuses("gone", Scenes::busy, x -> x.answer(1, 0), UNKNOWN);
        edges.refuses("nothing ASKED, at hand", Scenes::unasked, x -> x.answer(NONE, 0), STATE);
        edges.refuses("nothing ASKED, a KEPT one", Scenes::unasked, x -> x.answer(0, 0), STATE);
        edges.refuses("no TREE at hand", Scenes::circle, x -> x.answer(NONE, 0), STATE);
        edges.refuses("neither ASKED nor a TREE", QuestionsEdgesTest::circleUnasked, x -> x.answer(NONE, 0), STATE);
        edges.refusesEach("UNKNOWN ahead of nothing ASKED", Scenes::unasked, (x, k) -> x.answer(k, 0), UNKNOWN, -2, 1,
            4);
        edges.refusesEach("UNKNOWN ahead of no TREE", Scenes::circle, (x, k) -> x.answer(k, 0), UNKNOWN, -2, 1, 4);
        edges.refusesEach("UNKNOWN, whatever i", Scenes::busy, (x, i) -> x.answer(4, i), UNKNOWN, -1, 99);
        edges.refusesEach("STATE, whatever i", Scenes::circle, (x, i) -> x.answer(NONE, i), STATE, -1, 99);
        edges.refusesEach("STATE of nothing ASKED, whatever i", Scenes::unasked, (x, i) -> x.answer(0, i), STATE, -1,
            99);
    }
}
