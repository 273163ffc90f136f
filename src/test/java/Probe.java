import java.util.ArrayList;
import java.util.List;

/**
 * All that can be seen of an object, by some 340 calls: looks first, then calls that change it, so that what two
 * objects hold apart inside comes out, too.
 */
final class Probe {
    private final HeadTrees x;
    private final List<String> seen = new ArrayList<>();

    private Probe(HeadTrees x) {
        this.x = x;
    }

    static List<String> of(HeadTrees x) {
        Probe probe = new Probe(x);
        probe.lookAtHand();
        probe.lookAtTable();
        probe.lookAtKept();
        probe.goOn();
        return probe.seen;
    }

    private void note(String call, long answer) {
        seen.add(call + " = " + answer);
    }

    private void lookAtHand() {
        note("digest()", x.digest());
        for (int what = 0; what <= 4; what++) {
            note("count(" + what + ")", x.count(what));
        }
        for (int d = 0; d <= 8; d++) {
            note("headOf(" + d + ")", x.headOf(d));
        }
        note("is()", x.is());
        note("sum()", x.sum());
        for (int sort = 0; sort <= 1; sort++) {
            note("rank(" + sort + ")", x.rank(sort));
            note("trees(" + sort + ")", x.trees(sort));
        }
    }

    private void lookAtTable() {
        for (int a = 0; a <= 10; a++) {
            for (int b = 0; b <= 9; b++) {
                note("table(" + a + ", " + b + ", 0)", x.table(a, b, 0));
                note("table(" + a + ", " + b + ", 1)", x.table(a, b, 1));
            }
        }
    }

    private void lookAtKept() {
        for (int k = -1; k <= 19; k++) {
            note("answers(" + k + ")", x.answers(k));
            note("answer(" + k + ", 1)", x.answer(k, 1));
            note("agree(-1, " + k + ")", x.agree(-1, k));
            note("near(" + k + ", -1)", x.near(k, -1));
        }
    }

    private void goOn() {
        note("best(1, 0)", x.best(1, 0));
        note("digest() behind best", x.digest());
        note("keep()", x.keep());
        note("learn()", x.learn());
        note("digest() behind learn", x.digest());
        note("ask(4, 1, 2)", x.ask(4, 1, 2));
        note("clear()", x.clear());
        note("forget(2)", x.forget(2));
        note("recall(0)", x.recall(0));
        note("digest() behind recall", x.digest());
        note("words(7)", x.words(7));
        note("digest() behind words", x.digest());
    }
}
