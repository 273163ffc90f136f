import java.util.ArrayList;
import java.util.Comparator;
import java.util.HashMap;
import java.util.List;
import java.util.Map;

/** The document's words in their slowest form, by trying everything: what HeadTrees is compared with. */
final class PlainTrees {
    static final int NONE = -1, UNKNOWN = -101, OUTSIDE = -102, STATE = -103, FULL = -104;

    private record Kept(int[] tags, int[] heads) {
    }

    private record Asked(int sort, int x, int y) {
    }

    private record Ranked(int sum, int[] heads) {
    }

    private int[] tags;
    private int[] heads;
    private Map<List<Integer>, Integer> weights;
    private Map<List<Integer>, Boolean> forbidden;
    private final List<Kept> kept = new ArrayList<>();
    private final List<Asked> asked = new ArrayList<>();
    /** What allInOrder() found, until weights or the sentence change. */
    private final Map<Integer, List<Ranked>> found = new HashMap<>();

    PlainTrees() {
        words(1);
    }

    private int n() {
        return heads.length - 1;
    }

    private boolean isArc(int h, int d) {
        return h >= 0 && h <= n() && d >= 1 && d <= n() && h != d;
    }

    private static List<Integer> arc(int h, int d) {
        return List.of(h, d);
    }

    private int weightOf(int h, int d) {
        return weights.getOrDefault(arc(h, d), 0);
    }

    private boolean isForbidden(int h, int d) {
        return forbidden.getOrDefault(arc(h, d), false);
    }

    int words(int n) {
        if (n < 1 || n > 7) {
            return OUTSIDE;
        }
        take(new int[n + 1], new int[n + 1]);
        return n;
    }

    private void take(int[] newTags, int[] newHeads) {
        tags = newTags;
        heads = newHeads;
        tags[0] = 10;
        weights = new HashMap<>();
        forbidden = new HashMap<>();
        found.clear();
    }

    int tag(int d, int t) {
        if (d < 1 || d > n()) {
            return UNKNOWN;
        }
        if (t < 0 || t > 9) {
            return OUTSIDE;
        }
        int was = tags[d];
        tags[d] = t;
        return was;
    }

    int weight(int h, int d, int w) {
        if (!isArc(h, d)) {
            return UNKNOWN;
        }
        if (w < -1000000 || w > 1000000) {
            return OUTSIDE;
        }
        int was = weightOf(h, d);
        weights.put(arc(h, d), w);
        found.clear();
        return was;
    }

    int forbid(int h, int d, boolean is) {
        if (!isArc(h, d)) {
            return UNKNOWN;
        }
        boolean was = isForbidden(h, d);
        forbidden.put(arc(h, d), is);
        found.clear();
        return was ? 1 : 0;
    }

    int weighs(int h, int d) {
        return isArc(h, d) ? weightOf(h, d) : -2000000;
    }

    int head(int d, int h) {
        if (!isArc(h, d)) {
            return UNKNOWN;
        }
        int was = heads[d];
        heads[d] = h;
        return was;
    }

    int headOf(int d) {
        return d < 1 || d > n() ? NONE : heads[d];
    }

    private static boolean isOver(int[] heads, int a, int b) {
        int at = b;
        for (int step = 0; step < 20 && at != 0; step++) {
            at = heads[at];
            if (at == a) {
                return a != b;
            }
        }
        return false;
    }

    private static boolean isTree(int[] heads) {
        for (int d = 1; d < heads.length; d++) {
            if (!isOver(heads, 0, d)) {
                return false;
            }
        }
        return true;
    }

    private static boolean isSmooth(int[] heads) {
        for (int d = 1; d < heads.length; d++) {
            for (int w = 1; w < heads.length; w++) {
                boolean between = d < w && w < heads[d] || heads[d] < w && w < d;
                if (between && !isOver(heads, heads[d], w)) {
                    return false;
                }
            }
        }
        return true;
    }

    private boolean isAllowed(int[] ofHeads) {
        for (int d = 1; d < ofHeads.length; d++) {
            if (isForbidden(ofHeads[d], d)) {
                return false;
            }
        }
        return true;
    }

    private int sumOf(int[] ofHeads) {
        int sum = 0;
        for (int d = 1; d < ofHeads.length; d++) {
            sum += weightOf(ofHeads[d], d);
        }
        return sum;
    }

    int is() {
        int is = !isTree(heads) ? 0 : isSmooth(heads) ? 2 : 1;
        return is + (isAllowed(heads) ? 4 : 0);
    }

    int sum() {
        return sumOf(heads);
    }

    int over(int a, int b) {
        if (a < 0 || a > n() || b < 1 || b > n()) {
            return UNKNOWN;
        }
        if (!isTree(heads)) {
            return STATE;
        }
        return isOver(heads, a, b) ? 1 : 0;
    }

    int about(int d, int what) {
        if (d < 1 || d > n()) {
            return UNKNOWN;
        }
        if (what < 0 || what > 3) {
            return OUTSIDE;
        }
        if (!isTree(heads)) {
            return STATE;
        }
        int between = 0;
        List<Integer> below = new ArrayList<>();
        for (int w = 1; w <= n(); w++) {
            between += isOver(heads, w, d) ? 1 : 0;
            if (isOver(heads, d, w)) {
                below.add(w);
            }
        }
        int number = below.size();
        below.add(d);
        below.sort(Comparator.naturalOrder());
        return switch (what) {
            case 0 -> between;
            case 1 -> number;
            case 2 -> below.get(0);
            default -> below.get(below.size() - 1);
        };
    }

    private List<Ranked> allInOrder(int sort) {
        if (!found.containsKey(sort)) {
            List<Ranked> all = new ArrayList<>();
            gather(sort, new int[n() + 1], 1, all);
            // gathered by the least head first, which a stable sort keeps among like sums
            all.sort(Comparator.comparingInt((Ranked r) -> -r.sum()));
            found.put(sort, all);
        }
        return found.get(sort);
    }

    private void gather(int sort, int[] tried, int d, List<Ranked> all) {
        if (d > n()) {
            if (isTree(tried) && isAllowed(tried) && (sort == 0 || isSmooth(tried))) {
                all.add(new Ranked(sumOf(tried), tried.clone()));
            }
            return;
        }
        for (int h = 0; h <= n(); h++) {
            if (h != d) {
                tried[d] = h;
                gather(sort, tried, d + 1, all);
            }
        }
    }

    int best(int sort, int k) {
        if (sort < 0 || sort > 1 || k < 0 || k > 30) {
            return -100000001;
        }
        List<Ranked> all = allInOrder(sort);
        if (k >= all.size()) {
            return -100000000;
        }
        heads = all.get(k).heads().clone();
        return all.get(k).sum();
    }

    long trees(int sort) {
        return sort < 0 || sort > 1 ? OUTSIDE : allInOrder(sort).size();
    }

    int rank(int sort) {
        if (sort < 0 || sort > 1) {
            return OUTSIDE;
        }
        List<Ranked> all = allInOrder(sort);
        for (int k = 0; k < Math.min(31, all.size()); k++) {
            if (java.util.Arrays.equals(all.get(k).heads(), heads)) {
                return k;
            }
        }
        return NONE;
    }

    int keep() {
        if (!isTree(heads)) {
            return STATE;
        }
        if (kept.size() == 20) {
            return FULL;
        }
        kept.add(new Kept(tags.clone(), heads.clone()));
        return kept.size() - 1;
    }

    private Kept find(int k) {
        return k == NONE ? new Kept(tags, heads) : k >= 0 && k < kept.size() ? kept.get(k) : null;
    }

    int forget(int k) {
        if (k == NONE || find(k) == null) {
            return UNKNOWN;
        }
        return kept.set(k, null).heads().length - 1;
    }

    int recall(int k) {
        if (k == NONE || find(k) == null) {
            return UNKNOWN;
        }
        take(find(k).tags().clone(), find(k).heads().clone());
        return n();
    }

    int table(int a, int b, int side) {
        return a < 0 || a > 10 || b < 0 || b > 9 || side < 0 || side > 1 ? OUTSIDE : counted(a, b, side);
    }

    private int counted(int a, int b, int side) {
        int number = 0;
        for (Kept one : kept) {
            for (int d = 1; one != null && d < one.heads().length; d++) {
                int h = one.heads()[d];
                if (one.tags()[h] == a && one.tags()[d] == b && (h > d ? 1 : 0) == side) {
                    number++;
                }
            }
        }
        return number;
    }

    int learn() {
        int sum = 0;
        for (int d = 1; d <= n(); d++) {
            int together = 0;
            for (int a = 0; a <= 10; a++) {
                together += counted(a, tags[d], 0) + counted(a, tags[d], 1);
            }
            for (int h = 0; h <= n(); h++) {
                if (h != d) {
                    int side = h > d ? 1 : 0;
                    int learned = 1000 * (counted(tags[h], tags[d], side) + 1) / (together + 21);
                    weights.put(arc(h, d), learned);
                    sum += learned;
                }
            }
        }
        found.clear();
        return sum;
    }

    int ask(int sort, int x, int y) {
        if (sort < 0 || sort > 4 || x < 0 || x > 3 || y < 0 || y > (sort == 3 ? 9 : 3)) {
            return OUTSIDE;
        }
        if (asked.size() == 6) {
            return FULL;
        }
        asked.add(new Asked(sort, x, y));
        return asked.size();
    }

    int clear() {
        int were = asked.size();
        asked.clear();
        return were;
    }

    private List<Integer> allAnswers(Kept in) {
        boolean[] isAsked = new boolean[4];
        for (Asked one : asked) {
            isAsked[one.x()] = true;
            if (one.sort() != 3) {
                isAsked[one.y()] = true;
            }
        }
        List<Integer> all = new ArrayList<>();
        for (int code = 0; code <= 7777; code++) {
            int[] v = {code / 1000, code / 100 % 10, code / 10 % 10, code % 10};
            boolean fits = true;
            for (int i = 0; i < 4; i++) {
                fits &= isAsked[i] ? v[i] >= 1 && v[i] < in.heads().length : v[i] == 0;
            }
            for (int q = 0; fits && q < asked.size(); q++) {
                fits = holds(in, asked.get(q), v);
            }
            if (fits) {
                all.add(code);
            }
        }
        return all;
    }

    private static boolean holds(Kept in, Asked one, int[] v) {
        return switch (one.sort()) {
            case 0 -> isOver(in.heads(), v[one.x()], v[one.y()]);
            case 1 -> in.heads()[v[one.y()]] == v[one.x()];
            case 2 -> v[one.x()] < v[one.y()];
            case 3 -> in.tags()[v[one.x()]] == one.y();
            default -> v[one.x()] != v[one.y()];
        };
    }

    int answers(int k) {
        if (find(k) == null) {
            return UNKNOWN;
        }
        return asked.isEmpty() || !isTree(find(k).heads()) ? STATE : allAnswers(find(k)).size();
    }

    int answer(int k, int i) {
        int number = answers(k);
        if (number < 0) {
            return number;
        }
        return i < 0 || i >= number ? NONE : allAnswers(find(k)).get(i);
    }

    private int refusalToCompare(int k, int l) {
        Kept one = find(k);
        Kept other = find(l);
        if (one == null || other == null) {
            return UNKNOWN;
        }
        boolean trees = isTree(one.heads()) && isTree(other.heads());
        return trees && one.heads().length == other.heads().length ? 0 : STATE;
    }

    int agree(int k, int l) {
        int refusal = refusalToCompare(k, l);
        int like = 0;
        for (int d = 1; refusal == 0 && d < find(k).heads().length; d++) {
            like += find(k).heads()[d] == find(l).heads()[d] ? 1 : 0;
        }
        return refusal != 0 ? refusal : like;
    }

    private static int way(int[] heads, int a, int b) {
        return isOver(heads, a, b) ? 1 : isOver(heads, b, a) ? 2 : 0;
    }

    int near(int k, int l) {
        int refusal = refusalToCompare(k, l);
        int like = 0;
        for (int b = 1; refusal == 0 && b < find(k).heads().length; b++) {
            for (int a = 1; a < b; a++) {
                like += way(find(k).heads(), a, b) == way(find(l).heads(), a, b) ? 1 : 0;
            }
        }
        return refusal != 0 ? refusal : like;
    }

    int count(int what) {
        return switch (what) {
            case 0 -> n();
            case 1 -> (int) kept.stream().filter(one -> one != null).count();
            case 2 -> asked.size();
            case 3 -> (int) forbidden.values().stream().filter(is -> is).count();
            case 4 -> kept.size();
            default -> OUTSIDE;
        };
    }

    long digest() {
        List<Integer> numbers = new ArrayList<>();
        numbers.add(n());
        for (int d = 1; d <= n(); d++) {
            numbers.add(tags[d]);
            numbers.add(heads[d]);
            for (int h = 0; h <= n(); h++) {
                if (h != d) {
                    numbers.add(weightOf(h, d));
                    numbers.add(isForbidden(h, d) ? 1 : 0);
                }
            }
        }
        for (Kept one : kept) {
            numbers.add(one == null ? -1 : one.heads().length - 1);
            for (int d = 1; one != null && d < one.heads().length; d++) {
                numbers.add(one.tags()[d]);
                numbers.add(one.heads()[d]);
            }
        }
        for (Asked one : asked) {
            numbers.addAll(List.of(one.sort(), one.x(), one.y()));
        }
        long h = 139;
        for (int number : numbers) {
            h = 31 * h + number;
        }
        return h;
    }
}
