/** Objects in a known state, made anew at each call: what boundary cases begin with. */
final class Scenes {
    private Scenes() {
    }

    static void draw(HeadTrees x, int... heads) {
        for (int d = 1; d <= heads.length; d++) {
            x.head(d, heads[d - 1]);
        }
    }

    static void tags(HeadTrees x, int... tags) {
        for (int d = 1; d <= tags.length; d++) {
            x.tag(d, tags[d - 1]);
        }
    }

    /** A sentence with these heads, and with nothing else told. */
    static HeadTrees with(int... heads) {
        HeadTrees x = new HeadTrees();
        x.words(heads.length);
        draw(x, heads);
        return x;
    }

    static HeadTrees words(int n) {
        return with(new int[n]);
    }

    /**
     * Something of everything: three words with a tree; of five, nothing, three and three words kept, the one of
     * number 1 being gone; two things asked; one head forbidden. Words 4 to 7 are free for numbers too large.
     */
    static HeadTrees busy() {
        HeadTrees x = with(2, 0, 2, 5, 3);
        tags(x, 1, 2, 3, 1, 2);
        x.keep();
        x.words(3);
        tags(x, 4, 9, 0);
        draw(x, 0, 1, 2);
        x.keep();
        x.keep();
        draw(x, 3, 0, 2);
        x.keep();
        x.forget(1);
        tags(x, 7, 8, 9);
        draw(x, 2, 0, 2);
        x.weight(2, 1, 70);
        x.weight(3, 1, 70);
        x.weight(0, 2, -30);
        x.weight(2, 3, 5);
        x.forbid(1, 3, true);
        x.ask(0, 0, 1);
        x.ask(4, 1, 2);
        return x;
    }

    /** As busy(), but what is at hand is no tree: words 1 and 2 hang on one another. */
    static HeadTrees circle() {
        HeadTrees x = busy();
        x.head(2, 1);
        return x;
    }

    /** As busy(), but nothing is asked. */
    static HeadTrees unasked() {
        HeadTrees x = busy();
        x.clear();
        return x;
    }

    /** As busy(), with as many kept as there can be; the last one has number 19. */
    static HeadTrees fullOfKept() {
        HeadTrees x = busy();
        for (int k = 4; k < 20; k++) {
            x.keep();
        }
        return x;
    }

    /** As busy(), with as many things asked as there can be. */
    static HeadTrees fullOfAsked() {
        HeadTrees x = busy();
        for (int q = 2; q < 6; q++) {
            x.ask(2, 1, 2);
        }
        return x;
    }
}
