import java.util.ArrayList;
import java.util.Comparator;
import java.util.List;
import java.util.Set;
import java.util.TreeSet;

/**
 * The document once more, by other roads than the program's: balanced words for straight pieces,
 * angles for hulls, roots for balls. Slow, and only for the tests.
 */
final class Model {
    static final int UNKNOWN = -1001, BAD = -1002, STATE = -1003, FULL = -1004, NONE = -999;
    private static final int[][] GO = {{1, 0}, {1, 1}, {0, 1}, {-1, 1}, {-1, 0}, {-1, -1}, {0, -1}, {1, -1}};
    private static final double TINY = 1e-9;

    private final List<Integer> ways = new ArrayList<>();
    private Set<Integer> heap = new TreeSet<>();
    private int w = 8;
    private int h = 8;

    // ---- the row

    int step(int way) {
        if (way < 0 || way > 7) return BAD;
        if (ways.size() == 60) return FULL;
        ways.add(way);
        return ways.size();
    }

    int back(int n) {
        if (n < 1 || n > 60) return BAD;
        if (n > ways.size()) return STATE;
        ways.subList(ways.size() - n, ways.size()).clear();
        return ways.size();
    }

    int way(int step) {
        return step < 0 || step >= ways.size() ? UNKNOWN : ways.get(step);
    }

    int place(int place, boolean y) {
        if (place < 0 || place > ways.size()) return UNKNOWN;
        int sum = 0;
        for (int way : ways.subList(0, place)) sum += GO[way][y ? 1 : 0];
        return sum;
    }

    int draw(int u, int v) {
        if (u > 60 || u < -60 || v > 60 || v < -60 || u == 0 && v == 0) return BAD;
        int m = Math.max(Math.max(u, -u), Math.max(v, -v));
        if (ways.size() + m > 60) return FULL;
        for (int k = 1; k <= m; k++) {
            int dx = nearest(u * k, m) - nearest(u * (k - 1), m);
            int dy = nearest(v * k, m) - nearest(v * (k - 1), m);
            for (int way = 0; way < 8; way++) {
                if (GO[way][0] == dx && GO[way][1] == dy) ways.add(way);
            }
        }
        return ways.size();
    }

    private static int nearest(int above, int below) {
        for (int n = -60; n <= 60; n++) {
            if ((2 * n - 1) * below <= 2 * above && 2 * above < (2 * n + 1) * below) return n;
        }
        throw new IllegalStateException();
    }

    int word(int p, int q, int i) {
        if (p < 1 || p > 60 || q < 0 || q > p || i < 0 || i >= p) return BAD;
        int upTo = 0;
        while (upTo * p <= (i + 1) * q) upTo++;
        int before = 0;
        while (before * p <= i * q) before++;
        return upTo > before ? 1 : 0;
    }

    private int refusal(int from, int to) {
        if (from < 0 || from > ways.size() || to < 0 || to > ways.size()) return UNKNOWN;
        return to < from ? BAD : 0;
    }

    private boolean waysFit(int from, int to) {
        List<Integer> kinds = new ArrayList<>(new TreeSet<>(ways.subList(from, to)));
        if (kinds.size() < 2) return true;
        int apart = kinds.get(1) - kinds.get(0);
        return kinds.size() == 2 && (apart == 1 || apart == 7);
    }

    /** Balanced: pieces of like length have asides that differ by one at most. */
    private boolean isStraight(int from, int to) {
        if (!waysFit(from, to)) return false;
        for (int length = 1; length <= to - from; length++) {
            int least = 61;
            int most = -1;
            for (int k = from; k + length <= to; k++) {
                int asides = asides(k, k + length);
                least = Math.min(least, asides);
                most = Math.max(most, asides);
            }
            if (most - least > 1) return false;
        }
        return true;
    }

    private int asides(int from, int to) {
        int all = 0;
        for (int k = from; k < to; k++) all += ways.get(k) & 1;
        return all;
    }

    int straight(int from, int to) {
        int refusal = refusal(from, to);
        return refusal != 0 ? refusal : isStraight(from, to) ? 1 : 0;
    }

    /** Above and below of one end, found by the greatest and the least as doubles, then in least terms. */
    private int[] end(int from, int to, boolean high) {
        if (from == to) return new int[] {high ? 2 : -1, 1};
        int[] best = null;
        for (int k = from; k < to; k++) {
            for (int l = k + 1; l <= to; l++) {
                int[] now = {asides(k, l) + (high ? 1 : -1), l - k};
                double more = best == null ? 1 : (double) now[0] / now[1] - (double) best[0] / best[1];
                if (best == null || (high ? more < -TINY : more > TINY)) best = now;
            }
        }
        for (int by = 60; by > 1; by--) {
            if (best[0] % by == 0 && best[1] % by == 0) best = new int[] {best[0] / by, best[1] / by};
        }
        return best;
    }

    int span(int from, int to, boolean high, boolean upper) {
        int refusal = refusal(from, to);
        if (refusal != 0) return refusal;
        if (!waysFit(from, to)) return STATE;
        return end(from, to, high)[upper ? 0 : 1];
    }

    int plain(int from, int to, boolean upper) {
        int refusal = refusal(from, to);
        if (refusal != 0) return refusal;
        if (!isStraight(from, to)) return STATE;
        int[] low = end(from, to, false);
        int[] high = end(from, to, true);
        for (int q = 1; ; q++) {
            for (int p = 0; p <= q; p++) {
                if (p * low[1] > low[0] * q && p * high[1] < high[0] * q) return upper ? p : q;
            }
        }
    }

    int longest(boolean begin) {
        for (int length = ways.size(); length > 0; length--) {
            for (int from = 0; from + length <= ways.size(); from++) {
                if (isStraight(from, from + length)) return begin ? from : length;
            }
        }
        return 0;
    }

    int pieces() {
        int[] fewest = new int[ways.size() + 1];
        for (int to = 1; to <= ways.size(); to++) {
            fewest[to] = 61;
            for (int from = 0; from < to; from++) {
                if (isStraight(from, to)) fewest[to] = Math.min(fewest[to], fewest[from] + 1);
            }
        }
        return fewest[ways.size()];
    }

    int pieceEnd(int i) {
        if (i < 0) return NONE;
        int at = 0;
        for (int n = 0; at < ways.size(); n++) {
            int to = ways.size();
            while (!isStraight(at, to)) to--;
            if (n == i) return to;
            at = to;
        }
        return NONE;
    }

    // ---- heaps

    int ground(int w, int h) {
        if (w < 1 || w > 12 || h < 1 || h > 12) return BAD;
        this.w = w;
        this.h = h;
        heap.clear();
        return w * h;
    }

    private boolean unknown(int field) {
        return field < 0 || field >= w * h;
    }

    private boolean of(int x, int y) {
        return x >= 0 && x < w && y >= 0 && y < h && heap.contains(y * w + x);
    }

    int set(int field, boolean is) {
        if (unknown(field)) return UNKNOWN;
        boolean was = is ? !heap.add(field) : heap.remove(field);
        return was ? 1 : 0;
    }

    int has(int field) {
        return unknown(field) ? UNKNOWN : heap.contains(field) ? 1 : 0;
    }

    private boolean edge(int field) {
        int x = field % w;
        int y = field / w;
        return x * y == 0 || (x + 1 - w) * (y + 1 - h) == 0;
    }

    private boolean near(int a, int b, boolean about) {
        int dx = Math.abs(a % w - b % w);
        int dy = Math.abs(a / w - b / w);
        return about ? Math.max(dx, dy) == 1 : dx + dy == 1;
    }

    private List<Set<Integer>> parts(Set<Integer> all, boolean about) {
        List<Set<Integer>> parts = new ArrayList<>();
        for (int field : all) {
            Set<Integer> mine = new TreeSet<>(Set.of(field));
            List<Set<Integer>> apart = new ArrayList<>();
            for (Set<Integer> part : parts) {
                if (part.stream().anyMatch(f -> near(f, field, about))) mine.addAll(part);
                else apart.add(part);
            }
            apart.add(mine);
            parts = apart;
        }
        return parts;
    }

    private Set<Integer> without(Set<Integer> some) {
        Set<Integer> rest = new TreeSet<>();
        for (int f = 0; f < w * h; f++) if (!some.contains(f)) rest.add(f);
        return rest;
    }

    private List<Set<Integer>> shutBy(Set<Integer> wall) {
        List<Set<Integer>> shut = parts(without(wall), false);
        shut.removeIf(part -> part.stream().anyMatch(this::edge));
        return shut;
    }

    int fill(int field, boolean shut) {
        if (unknown(field)) return UNKNOWN;
        Set<Integer> trace = new TreeSet<>();
        for (int i = 0; i <= ways.size(); i++) {
            int x = field % w + place(i, false);
            int y = field / w + place(i, true);
            if (x < 0 || x >= w || y < 0 || y >= h) return BAD;
            trace.add(y * w + x);
        }
        if (shut) {
            if (place(ways.size(), false) != 0 || place(ways.size(), true) != 0) return STATE;
            for (Set<Integer> part : shutBy(Set.copyOf(trace))) trace.addAll(part);
        }
        heap.addAll(trace);
        return heap.size();
    }

    int heap(int what) {
        return switch (what) {
            case 0 -> heap.size();
            case 1 -> parts(heap, true).size();
            case 2 -> shutBy(heap).size();
            case 3 -> rims();
            case 4 -> lacks();
            default -> BAD;
        };
    }

    private int rims() {
        int inner = 0;
        for (int a : heap) for (int b : heap) if (near(a, b, false)) inner++;
        return 4 * heap.size() - inner;
    }

    /** A point is outside if all lie within less than half a turn seen from it. */
    private boolean inHull(int field, Set<Integer> of) {
        if (of.contains(field)) return true;
        if (of.isEmpty()) return false;
        List<Double> angles = new ArrayList<>();
        for (int f : of) angles.add(Math.atan2(f / w - field / w, f % w - field % w));
        angles.sort(null);
        angles.add(angles.get(0) + 2 * Math.PI);
        for (int i = 1; i < angles.size(); i++) {
            if (angles.get(i) - angles.get(i - 1) > Math.PI + TINY) return false;
        }
        return true;
    }

    private int lacks() {
        int all = 0;
        for (int f : without(heap)) if (inHull(f, heap)) all++;
        return all;
    }

    private boolean stairs() {
        for (int a : heap) {
            for (int b : heap) {
                for (int f = 0; f < w * h; f++) {
                    boolean line = a / w == b / w && a / w == f / w && a < f && f < b;
                    boolean column = a % w == b % w && a % w == f % w && a < f && f < b;
                    if ((line || column) && !heap.contains(f)) return false;
                }
            }
        }
        return true;
    }

    int is(int what) {
        return switch (what) {
            case 0 -> lacks() == 0 ? 1 : 0;
            case 1 -> stairs() ? 1 : 0;
            case 2 -> disc(0) == NONE ? 0 : 1;
            default -> BAD;
        };
    }

    int disc(int what) {
        if (what < 0 || what > 2) return BAD;
        if (heap.isEmpty()) return NONE;
        for (int y = 0; y <= 2 * h - 2; y++) {
            for (int x = 0; x <= 2 * w - 2; x++) {
                int px = x;
                int py = y;
                Comparator<Integer> bySquare = Comparator.comparingInt(f -> square(f, px, py));
                int far = square(heap.stream().max(bySquare).get(), x, y);
                if (without(heap).stream().allMatch(f -> square(f, px, py) > far)) {
                    return what == 0 ? x : what == 1 ? y : far;
                }
            }
        }
        return NONE;
    }

    private int square(int field, int px, int py) {
        int dx = 2 * (field % w) - px;
        int dy = 2 * (field / w) - py;
        return dx * dx + dy * dy;
    }

    int part(int field) {
        if (unknown(field)) return UNKNOWN;
        for (Set<Integer> part : parts(heap, true)) {
            if (part.contains(field)) return part.iterator().next();
        }
        return NONE;
    }

    private List<Integer> corners() {
        List<Integer> corners = new ArrayList<>();
        for (int f : heap) {
            Set<Integer> others = new TreeSet<>(heap);
            others.remove(f);
            if (!inHull(f, others)) corners.add(f);
        }
        if (corners.isEmpty()) return corners;
        corners.sort(Comparator.comparingInt(f -> f % w * 100 + f / w));
        int first = corners.remove(0);
        corners.sort(Comparator.comparingDouble(f -> Math.atan2(f / w - first / w, f % w - first % w)));
        corners.add(0, first);
        return corners;
    }

    int hull() {
        return corners().size();
    }

    int corner(int i) {
        List<Integer> corners = corners();
        return i < 0 || i >= corners.size() ? NONE : corners.get(i);
    }

    int deep(int field) {
        if (unknown(field)) return UNKNOWN;
        if (!heap.contains(field)) return 0;
        int least = Integer.MAX_VALUE;
        for (int y = -1; y <= h; y++) {
            for (int x = -1; x <= w; x++) {
                int dx = x - field % w;
                int dy = y - field / w;
                if (!of(x, y)) least = Math.min(least, dx * dx + dy * dy);
            }
        }
        return least;
    }

    int deepest(boolean field) {
        if (heap.isEmpty()) return field ? NONE : 0;
        int best = -1;
        for (int f = w * h - 1; f >= 0; f--) if (best < 0 || deep(f) >= deep(best)) best = f;
        return field ? best : deep(best);
    }

    private int[] depths() {
        int[] depths = new int[w * h];
        for (int f = 0; f < w * h; f++) depths[f] = deep(f);
        return depths;
    }

    private boolean isNeeded(int field, int[] depths) {
        if (!heap.contains(field)) return false;
        for (int other : heap) {
            double apart = Math.hypot(other % w - field % w, other / w - field / w);
            if (other != field && Math.sqrt(depths[other]) > apart + Math.sqrt(depths[field]) - TINY) return false;
        }
        return true;
    }

    int needed(int field) {
        return unknown(field) ? UNKNOWN : isNeeded(field, depths()) ? 1 : 0;
    }

    int balls() {
        int[] depths = depths();
        int all = 0;
        for (int f = 0; f < w * h; f++) if (isNeeded(f, depths)) all++;
        return all;
    }

    /** A ground of three by three about the field, its middle being neither of the heap nor free. */
    private boolean isLoose(int field) {
        if (!heap.contains(field)) return false;
        Model eight = new Model();
        eight.ground(3, 3);
        Set<Integer> free = new TreeSet<>();
        for (int[] go : GO) {
            int f = (go[1] + 1) * 3 + go[0] + 1;
            if (of(field % w + go[0], field / w + go[1])) eight.heap.add(f);
            else free.add(f);
        }
        List<Set<Integer>> frees = eight.parts(free, false);
        frees.removeIf(part -> part.stream().noneMatch(f -> eight.near(f, 4, false)));
        return eight.parts(eight.heap, true).size() == 1 && frees.size() == 1;
    }

    private int about(int field) {
        int all = 0;
        for (int f : heap) if (near(f, field, true)) all++;
        return all;
    }

    int loose(int field) {
        return unknown(field) ? UNKNOWN : isLoose(field) ? 1 : 0;
    }

    int thinning() {
        Set<Integer> outer = new TreeSet<>();
        for (int f : heap) {
            int beside = 0;
            for (int g : heap) if (near(f, g, false)) beside++;
            if (beside < 4) outer.add(f);
        }
        int taken = 0;
        for (int f : outer) {
            if (isLoose(f) && about(f) != 1) {
                heap.remove(f);
                taken++;
            }
        }
        return taken;
    }

    int thin() {
        int taken = thinning();
        return taken == 0 ? 0 : taken + thin();
    }

    int count(int what) {
        return switch (what) {
            case 0 -> ways.size();
            case 1 -> w;
            case 2 -> h;
            case 3 -> ways.size() - asides(0, ways.size());
            case 4 -> (int) heap.stream().filter(this::edge).count();
            default -> BAD;
        };
    }
}
