/**
 * Straight rows of steps on squares, and heaps of fields: whether a row is the picture of a straight
 * line, how it falls into straight pieces; the parts, holes, hull, depths and discs of a heap, and
 * its thinning. No call throws: what is refused is answered by one of the constants.
 */
public final class StraightSteps {
    public static final int UNKNOWN = -1001, BAD = -1002, STATE = -1003, FULL = -1004, NONE = -999;

    private static final int MOST_STEPS = 60;
    private static final int MOST_SIDE = 12;
    private static final int MOST_FIELDS = MOST_SIDE * MOST_SIDE;
    private static final int FIRST_SIDE = 8;
    private static final int WAYS = 8;

    /** What each way adds to x and to y. */
    private static final int[] RIGHT = {1, 1, 0, -1, -1, -1, 0, 1};
    private static final int[] UP = {0, 1, 1, 1, 0, -1, -1, -1};

    /** Bits of the even ways: those of the eight about a field that have a side in common with it. */
    private static final int BESIDE = 85;

    private final Row row;
    private final Piece piece;
    private final Ground floor;
    private final Parts parts;
    private final Trace trace;
    private final Hull outline;
    private final Depths depths;
    private final Disc round;
    private final Thinner thinner;

    public StraightSteps() {
        row = new Row();
        piece = new Piece();
        floor = new Ground();
        parts = new Parts();
        trace = new Trace();
        outline = new Hull();
        depths = new Depths();
        round = new Disc();
        thinner = new Thinner();
    }

    // ---- the row

    public int step(int way) {
        if (way < 0 || way >= WAYS) {
            return BAD;
        }
        if (row.steps() >= MOST_STEPS) {
            return FULL;
        }
        row.append(way);
        return row.steps();
    }

    public int back(int n) {
        if (n < 1 || n > MOST_STEPS) {
            return BAD;
        }
        if (n > row.steps()) {
            return STATE;
        }
        row.shorten(n);
        return row.steps();
    }

    public int way(int step) {
        return row.hasStep(step) ? row.wayOf(step) : UNKNOWN;
    }

    public int place(int place, boolean y) {
        if (!row.hasPlace(place)) {
            return UNKNOWN;
        }
        return y ? row.yOf(place) : row.xOf(place);
    }

    public int draw(int u, int v) {
        if (u < -MOST_STEPS || u > MOST_STEPS || v < -MOST_STEPS || v > MOST_STEPS) {
            return BAD;
        }
        int more = Math.max(Math.abs(u), Math.abs(v));
        if (more == 0) {
            return BAD;
        }
        if (row.steps() + more > MOST_STEPS) {
            return FULL;
        }
        row.appendLine(u, v, more);
        return row.steps();
    }

    public int word(int p, int q, int i) {
        if (p < 1 || p > MOST_STEPS || q < 0 || q > p || i < 0 || i >= p) {
            return BAD;
        }
        return (i + 1) * q / p > i * q / p ? 1 : 0;
    }

    public int straight(int from, int to) {
        int refusal = refusalOfPiece(from, to);
        if (refusal != 0) {
            return refusal;
        }
        piece.measure(row, from, to);
        return piece.isStraight() ? 1 : 0;
    }

    public int span(int from, int to, boolean high, boolean upper) {
        int refusal = refusalOfPiece(from, to);
        if (refusal != 0) {
            return refusal;
        }
        piece.measure(row, from, to);
        if (!piece.waysFit()) {
            return STATE;
        }
        return high ? piece.highEnd(upper) : piece.lowEnd(upper);
    }

    public int plain(int from, int to, boolean upper) {
        int refusal = refusalOfPiece(from, to);
        if (refusal != 0) {
            return refusal;
        }
        piece.measure(row, from, to);
        if (!piece.isStraight()) {
            return STATE;
        }
        return piece.plainSlope(upper);
    }

    public int longest(boolean begin) {
        int most = 0;
        int first = 0;
        for (int from = 0; from + most < row.steps(); from++) {
            int length = piece.farthest(row, from) - from;
            if (length > most) {
                most = length;
                first = from;
            }
        }
        return begin ? first : most;
    }

    public int pieces() {
        int made = 0;
        int at = 0;
        while (at < row.steps() && made < MOST_STEPS) {
            at = piece.farthest(row, at);
            made++;
        }
        return made;
    }

    public int pieceEnd(int i) {
        int at = 0;
        for (int made = 0; made < MOST_STEPS && at < row.steps(); made++) {
            at = piece.farthest(row, at);
            if (made == i) {
                return at;
            }
        }
        return NONE;
    }

    /** 0: there is such a piece. */
    private int refusalOfPiece(int from, int to) {
        if (!row.hasPlace(from) || !row.hasPlace(to)) {
            return UNKNOWN;
        }
        return to < from ? BAD : 0;
    }

    // ---- heaps

    public int ground(int w, int h) {
        if (w < 1 || w > MOST_SIDE || h < 1 || h > MOST_SIDE) {
            return BAD;
        }
        floor.lay(w, h);
        return floor.fields();
    }

    public int set(int field, boolean is) {
        if (!floor.knows(field)) {
            return UNKNOWN;
        }
        int was = floor.holds(field) ? 1 : 0;
        floor.put(field, is);
        return was;
    }

    public int has(int field) {
        if (!floor.knows(field)) {
            return UNKNOWN;
        }
        return floor.holds(field) ? 1 : 0;
    }

    public int fill(int field, boolean shut) {
        if (!floor.knows(field)) {
            return UNKNOWN;
        }
        if (!trace.follow(row, floor, field)) {
            return BAD;
        }
        if (shut && !row.comesBack()) {
            return STATE;
        }
        if (shut) {
            trace.shutIn(floor, parts);
        }
        trace.pourInto(floor);
        return floor.heapSize();
    }

    public int heap(int what) {
        switch (what) {
            case 0:
                return floor.heapSize();
            case 1:
                return parts.split(floor, floor.members(), true, true);
            case 2:
                parts.split(floor, floor.members(), false, false);
                return parts.shutParts(floor);
            case 3:
                return floor.rims();
            case 4:
                outline.wrap(floor);
                return outline.lacks(floor);
            default:
                return BAD;
        }
    }

    public int is(int what) {
        boolean so;
        switch (what) {
            case 0:
                outline.wrap(floor);
                so = outline.lacks(floor) == 0;
                break;
            case 1:
                so = floor.hasStairs();
                break;
            case 2:
                so = round.find(floor);
                break;
            default:
                return BAD;
        }
        return so ? 1 : 0;
    }

    public int disc(int what) {
        if (what < 0 || what > 2) {
            return BAD;
        }
        if (!round.find(floor)) {
            return NONE;
        }
        if (what == 2) {
            return round.greatestSquare();
        }
        return what == 0 ? round.middleX() : round.middleY();
    }

    public int part(int field) {
        if (!floor.knows(field)) {
            return UNKNOWN;
        }
        if (!floor.holds(field)) {
            return NONE;
        }
        parts.split(floor, floor.members(), true, true);
        return parts.leastOf(field);
    }

    public int hull() {
        outline.wrap(floor);
        return outline.size();
    }

    public int corner(int i) {
        outline.wrap(floor);
        return i >= 0 && i < outline.size() ? outline.fieldOf(floor, i) : NONE;
    }

    public int deep(int field) {
        return floor.knows(field) ? depths.depthOf(floor, field) : UNKNOWN;
    }

    public int deepest(boolean field) {
        int greatest = 0;
        int first = NONE;
        for (int f = 0; f < floor.fields(); f++) {
            int depth = depths.depthOf(floor, f);
            if (depth > greatest) {
                greatest = depth;
                first = f;
            }
        }
        return field ? first : greatest;
    }

    public int needed(int field) {
        if (!floor.knows(field)) {
            return UNKNOWN;
        }
        depths.measure(floor);
        return depths.isNeeded(floor, field) ? 1 : 0;
    }

    public int balls() {
        depths.measure(floor);
        int all = 0;
        for (int f = 0; f < floor.fields(); f++) {
            if (depths.isNeeded(floor, f)) {
                all++;
            }
        }
        return all;
    }

    public int loose(int field) {
        if (!floor.knows(field)) {
            return UNKNOWN;
        }
        return thinner.isLoose(floor, field) ? 1 : 0;
    }

    public int thinning() {
        return thinner.takeOnce(floor);
    }

    public int thin() {
        int all = 0;
        // Each thinning but the last takes a field, so there are no more than fields and one.
        for (int turn = 0; turn <= MOST_FIELDS; turn++) {
            int taken = thinner.takeOnce(floor);
            if (taken == 0) {
                break;
            }
            all += taken;
        }
        return all;
    }

    public int count(int what) {
        switch (what) {
            case 0:
                return row.steps();
            case 1:
                return floor.width();
            case 2:
                return floor.height();
            case 3:
                return row.evenSteps();
            case 4:
                return floor.heapOnEdge();
            default:
                return BAD;
        }
    }

    /** The steps, and the places to which they lead. */
    private static final class Row {
        private final int[] ways = new int[MOST_STEPS];
        private final int[] xs = new int[MOST_STEPS + 1];
        private final int[] ys = new int[MOST_STEPS + 1];
        private int length;

        int steps() {
            return length;
        }

        boolean hasStep(int step) {
            return step >= 0 && step < length;
        }

        boolean hasPlace(int place) {
            return place >= 0 && place <= length;
        }

        int wayOf(int step) {
            return hasStep(step) ? ways[step] : 0;
        }

        int xOf(int place) {
            return hasPlace(place) ? xs[place] : 0;
        }

        int yOf(int place) {
            return hasPlace(place) ? ys[place] : 0;
        }

        void append(int way) {
            if (length >= MOST_STEPS || way < 0 || way >= WAYS) {
                return;
            }
            ways[length] = way;
            xs[length + 1] = xs[length] + RIGHT[way];
            ys[length + 1] = ys[length] + UP[way];
            length++;
        }

        void shorten(int by) {
            if (by >= 0 && by <= length) {
                length -= by;
            }
        }

        void appendLine(int u, int v, int more) {
            int x = 0;
            int y = 0;
            for (int k = 1; k <= more; k++) {
                int nextX = nearest(u * k, more);
                int nextY = nearest(v * k, more);
                append(wayBy(nextX - x, nextY - y));
                x = nextX;
                y = nextY;
            }
        }

        boolean comesBack() {
            return xOf(length) == 0 && yOf(length) == 0;
        }

        int evenSteps() {
            int all = 0;
            for (int step = 0; step < length; step++) {
                if (ways[step] % 2 == 0) {
                    all++;
                }
            }
            return all;
        }

        /** Halves go up, those below 0 too: floor of the fraction and a half. */
        private static int nearest(int above, int below) {
            return below > 0 ? Math.floorDiv(2 * above + below, 2 * below) : 0;
        }

        private static int wayBy(int dx, int dy) {
            for (int way = 0; way < WAYS; way++) {
                if (RIGHT[way] == dx && UP[way] == dy) {
                    return way;
                }
            }
            return NONE;
        }
    }

    /** A piece of the row, measured step by step: whether its ways fit, and its span so far. */
    private static final class Piece {
        /** Sums of what two fractions have above and below make one between them: more is not needed below. */
        private static final int MOST_BELOW = 2 * MOST_STEPS;

        private final int[] asides = new int[MOST_STEPS + 1];
        private int length;
        private int waysSeen;
        private int lowAbove;
        private int lowBelow;
        private int highAbove;
        private int highBelow;

        void measure(Row row, int from, int to) {
            begin();
            for (int step = from; step < to; step++) {
                grow(row.wayOf(step));
            }
        }

        /** A part of a straight piece is straight, so what fails once need not be tried longer. */
        int farthest(Row row, int from) {
            begin();
            int to = from;
            while (to < row.steps()) {
                grow(row.wayOf(to));
                if (!isStraight()) {
                    break;
                }
                to++;
            }
            return to;
        }

        boolean waysFit() {
            for (int way = 0; way < WAYS; way++) {
                int two = (1 << way) | (1 << ((way + 1) % WAYS));
                if ((waysSeen & ~two) == 0) {
                    return true;
                }
            }
            return false;
        }

        boolean isStraight() {
            return lowAbove * highBelow < highAbove * lowBelow && waysFit();
        }

        int lowEnd(boolean upper) {
            return inLeastTerms(lowAbove, lowBelow, upper);
        }

        int highEnd(boolean upper) {
            return inLeastTerms(highAbove, highBelow, upper);
        }

        /** The least number that lies above the low end never falls when what is below grows. */
        int plainSlope(boolean upper) {
            int above = 0;
            for (int below = 1; below <= MOST_BELOW; below++) {
                while (above <= below && above * lowBelow <= lowAbove * below) {
                    above++;
                }
                if (above <= below && above * highBelow < highAbove * below) {
                    return upper ? above : below;
                }
            }
            return STATE;
        }

        /** Without steps the span is from -1 to 2, and no step lets it go beyond these. */
        private void begin() {
            length = 0;
            waysSeen = 0;
            lowAbove = -1;
            lowBelow = 1;
            highAbove = 2;
            highBelow = 1;
        }

        private void grow(int way) {
            if (length >= MOST_STEPS || way < 0 || way >= WAYS) {
                return;
            }
            waysSeen |= 1 << way;
            asides[length + 1] = asides[length] + way % 2;
            length++;
            for (int k = 0; k < length; k++) {
                narrow(asides[length] - asides[k], length - k);
            }
        }

        private void narrow(int aside, int steps) {
            if ((aside - 1) * lowBelow > lowAbove * steps) {
                lowAbove = aside - 1;
                lowBelow = steps;
            }
            if ((aside + 1) * highBelow < highAbove * steps) {
                highAbove = aside + 1;
                highBelow = steps;
            }
        }

        private static int inLeastTerms(int above, int below, boolean upper) {
            int common = commonDivisor(Math.abs(above), below);
            if (common <= 0) {
                return STATE;
            }
            return upper ? above / common : below / common;
        }

        private static int commonDivisor(int a, int b) {
            int greater = a;
            int lesser = b;
            for (int turn = 0; turn < MOST_BELOW && lesser != 0; turn++) {
                int rest = greater % lesser;
                greater = lesser;
                lesser = rest;
            }
            return greater;
        }
    }

    /** The fields, and which of them are of the heap. */
    private static final class Ground {
        private final boolean[] inHeap = new boolean[MOST_FIELDS];
        private int wide = FIRST_SIDE;
        private int high = FIRST_SIDE;

        /** The sides are 1 .. MOST_SIDE each. */
        void lay(int w, int h) {
            wide = w;
            high = h;
            for (int f = 0; f < MOST_FIELDS; f++) {
                inHeap[f] = false;
            }
        }

        int width() {
            return wide;
        }

        int height() {
            return high;
        }

        int fields() {
            return wide * high;
        }

        boolean[] members() {
            return inHeap;
        }

        boolean knows(int field) {
            return field >= 0 && field < fields();
        }

        int columnOf(int field) {
            return wide > 0 ? field % wide : 0;
        }

        int lineOf(int field) {
            return wide > 0 ? field / wide : 0;
        }

        /** NONE: it is beyond the edge. */
        int fieldAt(int x, int y) {
            return x >= 0 && x < wide && y >= 0 && y < high ? y * wide + x : NONE;
        }

        boolean holds(int field) {
            return knows(field) && inHeap[field];
        }

        boolean holdsAt(int x, int y) {
            return holds(fieldAt(x, y));
        }

        void put(int field, boolean is) {
            if (knows(field)) {
                inHeap[field] = is;
            }
        }

        boolean onEdge(int field) {
            int x = columnOf(field);
            int y = lineOf(field);
            return x == 0 || y == 0 || x == wide - 1 || y == high - 1;
        }

        int heapSize() {
            int all = 0;
            for (int f = 0; f < fields(); f++) {
                if (holds(f)) {
                    all++;
                }
            }
            return all;
        }

        int heapOnEdge() {
            int all = 0;
            for (int f = 0; f < fields(); f++) {
                if (holds(f) && onEdge(f)) {
                    all++;
                }
            }
            return all;
        }

        int rims() {
            int all = 0;
            for (int f = 0; f < fields(); f++) {
                if (holds(f)) {
                    all += 4 - Integer.bitCount(eightAbout(f) & BESIDE);
                }
            }
            return all;
        }

        /** Bit w: the field that way w leads to is of the heap. */
        int eightAbout(int field) {
            int x = columnOf(field);
            int y = lineOf(field);
            int eight = 0;
            for (int way = 0; way < WAYS; way++) {
                if (holdsAt(x + RIGHT[way], y + UP[way])) {
                    eight |= 1 << way;
                }
            }
            return eight;
        }

        boolean hasStairs() {
            for (int x = 0; x < wide; x++) {
                if (runsFrom(x, 0, 2) > 1) {
                    return false;
                }
            }
            for (int y = 0; y < high; y++) {
                if (runsFrom(0, y, 0) > 1) {
                    return false;
                }
            }
            return true;
        }

        /** Rows of heap fields one beside the other, on the line along a way from an edge. */
        private int runsFrom(int x, int y, int way) {
            int runs = 0;
            boolean before = false;
            for (int k = 0; k < MOST_SIDE; k++) {
                boolean now = holdsAt(x + k * RIGHT[way], y + k * UP[way]);
                if (now && !before) {
                    runs++;
                }
                before = now;
            }
            return runs;
        }
    }

    /** The parts in which a set of fields hangs together, each known by its least field. */
    private static final class Parts {
        private final int[] least = new int[MOST_FIELDS];
        private final int[] queue = new int[MOST_FIELDS];
        private final boolean[] open = new boolean[MOST_FIELDS];

        /** Parts of the fields that the set tells as sought: how many. */
        int split(Ground floor, boolean[] set, boolean sought, boolean about) {
            int fields = Math.min(floor.fields(), set.length);
            for (int f = 0; f < fields; f++) {
                least[f] = NONE;
            }
            int all = 0;
            for (int f = 0; f < fields; f++) {
                if (set[f] == sought && least[f] == NONE) {
                    gather(floor, set, f, about);
                    all++;
                }
            }
            return all;
        }

        int leastOf(int field) {
            return field >= 0 && field < MOST_FIELDS ? least[field] : NONE;
        }

        /** How many parts do not come to the edge. */
        int shutParts(Ground floor) {
            findOpen(floor);
            int all = 0;
            for (int f = 0; f < floor.fields(); f++) {
                if (least[f] == f && !open[f]) {
                    all++;
                }
            }
            return all;
        }

        /** Tells the parts that come to the edge, each at its least field. */
        void findOpen(Ground floor) {
            for (int f = 0; f < floor.fields(); f++) {
                open[f] = false;
            }
            for (int f = 0; f < floor.fields(); f++) {
                int part = least[f];
                if (part >= 0 && part < MOST_FIELDS && floor.onEdge(f)) {
                    open[part] = true;
                }
            }
        }

        /** Good behind findOpen. */
        boolean comesToEdge(int field) {
            int part = leastOf(field);
            return part >= 0 && part < MOST_FIELDS && open[part];
        }

        private void gather(Ground floor, boolean[] set, int seed, boolean about) {
            least[seed] = seed;
            queue[0] = seed;
            int waiting = 1;
            for (int next = 0; next < waiting && next < MOST_FIELDS; next++) {
                int x = floor.columnOf(queue[next]);
                int y = floor.lineOf(queue[next]);
                for (int way = 0; way < WAYS; way += about ? 1 : 2) {
                    int f = floor.fieldAt(x + RIGHT[way], y + UP[way]);
                    boolean fresh = floor.knows(f) && set[f] == set[seed] && least[f] == NONE;
                    if (fresh && waiting < MOST_FIELDS) {
                        least[f] = seed;
                        queue[waiting] = f;
                        waiting++;
                    }
                }
            }
        }
    }

    /** The fields on which the row's places lie, and then those that they shut in too. */
    private static final class Trace {
        private final boolean[] marked = new boolean[MOST_FIELDS];

        /** False: a place lies beyond the ground. */
        boolean follow(Row row, Ground floor, int start) {
            for (int f = 0; f < MOST_FIELDS; f++) {
                marked[f] = false;
            }
            int x = floor.columnOf(start);
            int y = floor.lineOf(start);
            for (int place = 0; place <= row.steps(); place++) {
                int field = floor.fieldAt(x + row.xOf(place), y + row.yOf(place));
                if (!floor.knows(field)) {
                    return false;
                }
                marked[field] = true;
            }
            return true;
        }

        void shutIn(Ground floor, Parts parts) {
            parts.split(floor, marked, false, false);
            parts.findOpen(floor);
            for (int f = 0; f < floor.fields(); f++) {
                if (!parts.comesToEdge(f)) {
                    marked[f] = true;
                }
            }
        }

        void pourInto(Ground floor) {
            for (int f = 0; f < floor.fields(); f++) {
                if (marked[f]) {
                    floor.put(f, true);
                }
            }
        }
    }

    /** The corners of the hull of a heap's middles, against the clock from the leftmost, lowest one. */
    private static final class Hull {
        /** Each column gives its lowest and its highest field. */
        private static final int MOST_CORNERS = 2 * MOST_SIDE;

        private final int[] xs = new int[MOST_CORNERS];
        private final int[] ys = new int[MOST_CORNERS];
        private int corners;

        int size() {
            return corners;
        }

        int fieldOf(Ground floor, int corner) {
            return corner >= 0 && corner < corners ? floor.fieldAt(xs[corner], ys[corner]) : NONE;
        }

        void wrap(Ground floor) {
            corners = 0;
            for (int x = 0; x < floor.width(); x++) {
                addLowest(floor, x);
            }
            int turn = Math.max(corners - 1, 0);
            for (int x = floor.width() - 1; x >= 0; x--) {
                addHighest(floor, x, turn);
            }
            // The leftmost column closes the rim: with one field alone it would be told twice.
            if (corners > 1 && xs[corners - 1] == xs[0] && ys[corners - 1] == ys[0]) {
                corners--;
            }
        }

        int lacks(Ground floor) {
            int all = 0;
            for (int f = 0; f < floor.fields(); f++) {
                if (!floor.holds(f) && covers(floor.columnOf(f), floor.lineOf(f))) {
                    all++;
                }
            }
            return all;
        }

        private void addLowest(Ground floor, int x) {
            for (int y = 0; y < floor.height(); y++) {
                if (floor.holdsAt(x, y)) {
                    add(x, y, 0);
                    return;
                }
            }
        }

        private void addHighest(Ground floor, int x, int turn) {
            for (int y = floor.height() - 1; y >= 0; y--) {
                if (floor.holdsAt(x, y)) {
                    add(x, y, turn);
                    return;
                }
            }
        }

        /** A corner at which the rim does not turn to the left is none; that at base stays. */
        private void add(int x, int y, int base) {
            while (corners - base >= 2 && side(corners - 2, corners - 1, x, y) <= 0) {
                corners--;
            }
            if (corners < MOST_CORNERS) {
                xs[corners] = x;
                ys[corners] = y;
                corners++;
            }
        }

        /** Above 0: the point lies to the left of the way from corner a to corner b; 0: in its line. */
        private int side(int a, int b, int x, int y) {
            if (a < 0 || b < 0 || a >= MOST_CORNERS || b >= MOST_CORNERS) {
                return 0;
            }
            return (xs[b] - xs[a]) * (y - ys[a]) - (ys[b] - ys[a]) * (x - xs[a]);
        }

        /** The box keeps to their piece those in the line of a hull that is flat. */
        private boolean covers(int x, int y) {
            for (int a = 0; a < corners; a++) {
                int b = a + 1 < corners ? a + 1 : 0;
                if (side(a, b, x, y) < 0) {
                    return false;
                }
            }
            return inBox(x, y);
        }

        private boolean inBox(int x, int y) {
            boolean right = false;
            boolean left = false;
            boolean above = false;
            boolean under = false;
            for (int c = 0; c < corners; c++) {
                right = right || x >= xs[c];
                left = left || x <= xs[c];
                above = above || y >= ys[c];
                under = under || y <= ys[c];
            }
            return right && left && above && under;
        }
    }

    /** How far inside the heap the fields lie, by squares of ways. */
    private static final class Depths {
        private final int[] depth = new int[MOST_FIELDS];

        int depthOf(Ground floor, int field) {
            if (!floor.holds(field)) {
                return 0;
            }
            int x = floor.columnOf(field);
            int y = floor.lineOf(field);
            int across = Math.min(x + 1, floor.width() - x);
            int along = Math.min(y + 1, floor.height() - y);
            // What lies beyond the edge is so near: whoever is as far in one direction need not be asked.
            int reach = Math.min(across, along);
            int least = reach * reach;
            for (int dy = 1 - reach; dy < reach; dy++) {
                for (int dx = 1 - reach; dx < reach; dx++) {
                    int square = dx * dx + dy * dy;
                    if (square < least && !floor.holdsAt(x + dx, y + dy)) {
                        least = square;
                    }
                }
            }
            return least;
        }

        void measure(Ground floor) {
            for (int f = 0; f < floor.fields(); f++) {
                depth[f] = depthOf(floor, f);
            }
        }

        /** Good behind measure. */
        boolean isNeeded(Ground floor, int field) {
            if (!floor.holds(field)) {
                return false;
            }
            for (int other = 0; other < floor.fields(); other++) {
                // Only a deeper one holds it, and so never it itself; like ones do not hold one another.
                if (depth[other] > depth[field] && ballHolds(floor, other, field)) {
                    return false;
                }
            }
            return true;
        }

        /**
         * Root of the greater at least the way and the root of the lesser: squared once, what is left
         * beside the double product is compared with it by squares, so that no root is drawn.
         */
        private boolean ballHolds(Ground floor, int greater, int lesser) {
            int dx = floor.columnOf(greater) - floor.columnOf(lesser);
            int dy = floor.lineOf(greater) - floor.lineOf(lesser);
            int square = dx * dx + dy * dy;
            int left = depth[greater] - square - depth[lesser];
            return left >= 0 && left * left >= 4 * square * depth[lesser];
        }
    }

    /** The first point, in halves, to which the whole heap is nearer than all else of the ground. */
    private static final class Disc {
        /** The squares of two longest sides, in halves: no way within the ground has so great a square. */
        private static final int BEYOND_ALL = 8 * MOST_FIELDS;

        private int foundX;
        private int foundY;
        private int foundSquare;

        boolean find(Ground floor) {
            if (floor.heapSize() == 0) {
                return false;
            }
            for (int y = 0; y <= 2 * floor.height() - 2; y++) {
                for (int x = 0; x <= 2 * floor.width() - 2; x++) {
                    int square = squareAbout(floor, x, y);
                    if (square != NONE) {
                        foundX = x;
                        foundY = y;
                        foundSquare = square;
                        return true;
                    }
                }
            }
            return false;
        }

        int middleX() {
            return foundX;
        }

        int middleY() {
            return foundY;
        }

        int greatestSquare() {
            return foundSquare;
        }

        /** The greatest square of the way to a field of the heap; NONE: another field is as near. */
        private static int squareAbout(Ground floor, int atX, int atY) {
            int farthest = 0;
            int nearest = BEYOND_ALL;
            for (int f = 0; f < floor.fields(); f++) {
                int dx = 2 * floor.columnOf(f) - atX;
                int dy = 2 * floor.lineOf(f) - atY;
                int square = dx * dx + dy * dy;
                if (floor.holds(f)) {
                    farthest = Math.max(farthest, square);
                } else {
                    nearest = Math.min(nearest, square);
                }
                if (farthest >= nearest) {
                    return NONE;
                }
            }
            return farthest;
        }
    }

    /** Takes fields from the heap that do not hold it together. */
    private static final class Thinner {
        private static final int ALL_EIGHT = 255;

        private final boolean[] wasOuter = new boolean[MOST_FIELDS];

        boolean isLoose(Ground floor, int field) {
            return floor.holds(field) && eightLetGo(floor.eightAbout(field));
        }

        int takeOnce(Ground floor) {
            for (int f = 0; f < floor.fields(); f++) {
                wasOuter[f] = floor.holds(f) && (floor.eightAbout(f) & BESIDE) != BESIDE;
            }
            int taken = 0;
            for (int f = 0; f < floor.fields(); f++) {
                if (wasOuter[f] && mayGo(floor.eightAbout(f))) {
                    floor.put(f, false);
                    taken++;
                }
            }
            return taken;
        }

        private static boolean mayGo(int eight) {
            return Integer.bitCount(eight) != 1 && eightLetGo(eight);
        }

        private static boolean eightLetGo(int eight) {
            int free = ALL_EIGHT & ~eight;
            int freeBeside = free & BESIDE;
            if (eight == 0 || freeBeside == 0) {
                return false;
            }
            boolean oneOfHeap = partWith(eight & -eight, eight, true) == eight;
            int freePart = partWith(freeBeside & -freeBeside, free, false);
            return oneOfHeap && (freeBeside & ~freePart) == 0;
        }

        /** The part of some of the eight that a first one is of, beside by beside or about. */
        private static int partWith(int first, int among, boolean about) {
            int part = first;
            for (int turn = 0; turn < WAYS; turn++) {
                int next = turned(part, 1) | turned(part, WAYS - 1);
                if (about) {
                    // Two of the four beside the field touch at a corner.
                    next |= turned(part & BESIDE, 2) | turned(part & BESIDE, WAYS - 2);
                }
                part |= next & among;
            }
            return part;
        }

        private static int turned(int eight, int by) {
            return ((eight << by) | (eight >> (WAYS - by))) & ALL_EIGHT;
        }
    }
}
