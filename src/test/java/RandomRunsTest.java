import java.util.Random;

/** Runs of calls, drawn from a fixed seed, whose answers and digests must be those of PlainTrees. */
public final class RandomRunsTest {
    /** What an object is used for at most; later answers are free. */
    private static final int MOST_CALLS = 512;
    /** The most calls that one step makes, looks at the digest among them. */
    private static final int CALLS_OF_A_STEP = 12;
    private static final int KINDS_OF_STEPS = 12;

    private final Check check;
    private final Random random;
    private final int mostWords;
    private final int mostWeight;
    /** What this run does most, so that some runs come to what is full. */
    private final int favourite;
    private HeadTrees real;
    private PlainTrees plain;
    private String run;
    private int calls;

    private RandomRunsTest(Check check, long seed, int mostWords, int mostWeight) {
        this.check = check;
        this.random = new Random(seed);
        this.mostWords = mostWords;
        this.mostWeight = mostWeight;
        this.favourite = random.nextInt(KINDS_OF_STEPS);
    }

    public static void main(String[] args) {
        Check check = new Check();
        int[] weights = {0, 2, 50, 1000000};
        for (int seed = 0; seed < 1400; seed++) {
            new RandomRunsTest(check, seed, 1 + seed % 5, weights[seed / 5 % 4]).go();
        }
        for (int seed = 2000; seed < 2024; seed++) {
            new RandomRunsTest(check, seed, 6, weights[seed % 4]).go();
        }
        for (int seed = 3000; seed < 3012; seed++) {
            new RandomRunsTest(check, seed, 7, weights[seed % 4]).goOverBest();
        }
        check.end();
    }

    private void start(String name) {
        run = name;
        calls = 0;
        real = new HeadTrees();
        plain = new PlainTrees();
        sameAnswer("digest() of a new object", real.digest(), plain.digest());
    }

    private void same(String call, long got, long want) {
        sameAnswer(call, got, want);
        sameAnswer("digest() behind " + call, real.digest(), plain.digest());
    }

    private void sameAnswer(String call, long got, long want) {
        calls++;
        check.due(run + ": call " + calls + ", " + call, got, want);
        check.holds("an object is used for " + MOST_CALLS + " calls at most", calls <= MOST_CALLS);
    }

    private void go() {
        start("up to " + mostWords + " words, weights to " + mostWeight);
        while (calls + CALLS_OF_A_STEP <= MOST_CALLS && check.wrong() == 0) {
            step();
        }
    }

    /** A number from..to, now and then one that lies beside or far off. */
    private int near(int from, int to) {
        int kind = random.nextInt(60);
        int[] odd = {from - 1, to + 1, Integer.MIN_VALUE, Integer.MAX_VALUE};
        return kind < odd.length ? odd[kind] : from + random.nextInt(to - from + 1);
    }

    private int words() {
        return plain.count(0);
    }

    private int drawn() {
        return near(-1, Math.max(0, plain.count(4) - 1));
    }

    private void step() {
        switch (random.nextInt(3) == 0 ? favourite : random.nextInt(KINDS_OF_STEPS)) {
            case 0 -> sentence();
            case 1, 2 -> weighing();
            case 3, 4 -> atHand();
            case 5, 6 -> bestTrees();
            case 7 -> keeping();
            case 8 -> learning();
            case 9, 10 -> questions();
            default -> agreement();
        }
    }

    private void sentence() {
        if (random.nextInt(3) == 0) {
            int n = random.nextInt(8) == 0 ? (random.nextBoolean() ? 0 : 8) : 1 + random.nextInt(mostWords);
            same("words(" + n + ")", real.words(n), plain.words(n));
        }
        int d = near(1, words());
        int t = near(0, random.nextBoolean() ? 2 : 9);
        same("tag(" + d + ", " + t + ")", real.tag(d, t), plain.tag(d, t));
        int what = near(0, 4);
        same("count(" + what + ")", real.count(what), plain.count(what));
    }

    private void weighing() {
        int h = near(0, words());
        int d = near(1, words());
        int w = near(-mostWeight, mostWeight);
        same("weight(" + h + ", " + d + ", " + w + ")", real.weight(h, d, w), plain.weight(h, d, w));
        same("weighs(" + d + ", " + h + ")", real.weighs(d, h), plain.weighs(d, h));
        if (random.nextInt(3) == 0) {
            boolean is = random.nextInt(3) != 0;
            same("forbid(" + d + ", " + h + ", " + is + ")", real.forbid(d, h, is), plain.forbid(d, h, is));
        }
    }

    private void atHand() {
        int d = near(1, words());
        int h = near(0, words());
        same("head(" + d + ", " + h + ")", real.head(d, h), plain.head(d, h));
        same("headOf(" + d + ")", real.headOf(d), plain.headOf(d));
        same("is()", real.is(), plain.is());
        same("sum()", real.sum(), plain.sum());
        int b = near(1, words());
        same("over(" + h + ", " + b + ")", real.over(h, b), plain.over(h, b));
        int what = near(0, 3);
        same("about(" + d + ", " + what + ")", real.about(d, what), plain.about(d, what));
    }

    private void bestTrees() {
        int sort = near(0, 1);
        int k = near(0, random.nextBoolean() ? 3 : 30);
        same("best(" + sort + ", " + k + ")", real.best(sort, k), plain.best(sort, k));
        int other = near(0, 1);
        same("rank(" + other + ")", real.rank(other), plain.rank(other));
        same("trees(" + sort + ")", real.trees(sort), plain.trees(sort));
    }

    private void keeping() {
        int k = near(0, Math.max(0, plain.count(4) - 1));
        switch (random.nextInt(5)) {
            case 0 -> same("forget(" + k + ")", real.forget(k), plain.forget(k));
            case 1 -> same("recall(" + k + ")", real.recall(k), plain.recall(k));
            default -> same("keep()", real.keep(), plain.keep());
        }
    }

    private void learning() {
        int a = near(0, 10);
        int b = near(0, random.nextBoolean() ? 2 : 9);
        int side = near(0, 1);
        same("table(" + a + ", " + b + ", " + side + ")", real.table(a, b, side), plain.table(a, b, side));
        if (random.nextInt(4) == 0) {
            same("learn()", real.learn(), plain.learn());
        }
    }

    private void questions() {
        int sort = near(0, 4);
        int x = near(0, 3);
        int y = near(0, sort == 3 ? 2 : 3);
        same("ask(" + sort + ", " + x + ", " + y + ")", real.ask(sort, x, y), plain.ask(sort, x, y));
        int k = drawn();
        same("answers(" + k + ")", real.answers(k), plain.answers(k));
        int i = near(0, 20);
        same("answer(" + k + ", " + i + ")", real.answer(k, i), plain.answer(k, i));
        if (random.nextInt(5) == 0) {
            same("clear()", real.clear(), plain.clear());
        }
    }

    private void agreement() {
        int k = drawn();
        int l = drawn();
        same("agree(" + k + ", " + l + ")", real.agree(k, l), plain.agree(k, l));
        same("near(" + k + ", " + l + ")", real.near(k, l), plain.near(k, l));
    }

    /** Every rank of a long sentence, weighed once: what is slow to find plainly is found once. */
    private void goOverBest() {
        start("best of " + mostWords + " words, weights to " + mostWeight);
        same("words", real.words(mostWords), plain.words(mostWords));
        for (int d = 1; d <= mostWords; d++) {
            for (int h = 0; h <= mostWords; h++) {
                int w = random.nextInt(2 * mostWeight + 1) - mostWeight;
                boolean is = random.nextInt(4) == 0;
                sameAnswer("weight", real.weight(h, d, w), plain.weight(h, d, w));
                sameAnswer("forbid", real.forbid(h, d, is), plain.forbid(h, d, is));
            }
        }
        for (int sort = 0; sort <= 1; sort++) {
            same("trees(" + sort + ")", real.trees(sort), plain.trees(sort));
            for (int k = 0; k <= 30; k++) {
                same("best(" + sort + ", " + k + ")", real.best(sort, k), plain.best(sort, k));
                same("rank(0)", real.rank(0), plain.rank(0));
                same("rank(1)", real.rank(1), plain.rank(1));
            }
        }
    }
}
