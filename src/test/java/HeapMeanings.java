import java.util.Random;

/** What parts 2 to 4 of the terms say of heaps, held to as it is written, or by what must follow from it. */
final class HeapMeanings {
    private static final int HEAPS = 120;

    private HeapMeanings() {
    }

    static void all() {
        partsLessHoles();
        bulging();
        depths();
        ballsMakeTheHeap();
        neededByRoots();
        discs();
        looseOrHolding();
        thinned();
    }

    private static void due(String call, long got, long want) {
        Sentences.due(call, got, want);
    }

    /** PARTS less HOLES can be counted by squares of four fields alone (Gray's count). */
    private static void partsLessHoles() {
        Sentences.name("What it is", "heaps of fields, their parts and holes");
        Sentences.terms("HOLES: FIELDS that are not of it, and");
        for (int seed = 0; seed < HEAPS; seed++) {
            boolean[][] heap = drawn(seed);
            StraightSteps x = laid(heap);
            due("parts less holes", x.heap(1) - x.heap(2), byFours(heap));
        }
    }

    private static int byFours(boolean[][] heap) {
        int sum = 0;
        for (int y = 0; y <= heap.length; y++) {
            for (int x = 0; x <= heap[0].length; x++) {
                boolean a = at(heap, x - 1, y - 1), b = at(heap, x, y - 1), c = at(heap, x - 1, y), d = at(heap, x, y);
                int of = (a ? 1 : 0) + (b ? 1 : 0) + (c ? 1 : 0) + (d ? 1 : 0);
                if (of == 1) {
                    sum++;
                } else if (of == 3) {
                    sum--;
                } else if (of == 2 && a == d) {
                    sum -= 2;
                }
            }
        }
        return sum / 4;
    }

    /** A point lies in the hull if it lies in a triangle of three of the heap, on its rim too. */
    private static void bulging() {
        Sentences.name("What it is", "whether they bulge everywhere");
        Sentences.terms("THE HEAP BULGES, if");
        Random dice = new Random(7);
        for (int n = 0; n < 300; n++) {
            int w = 1 + dice.nextInt(12), h = 1 + dice.nextInt(12);
            boolean[][] heap = new boolean[h][w];
            int fields = 1 + dice.nextInt(7);
            int[] xs = new int[fields], ys = new int[fields];
            for (int i = 0; i < fields; i++) {
                xs[i] = dice.nextInt(w);
                ys[i] = dice.nextInt(h);
                heap[ys[i]][xs[i]] = true;
            }
            int lacks = 0;
            for (int f = 0; f < w * h; f++) {
                lacks += !heap[f / w][f % w] && inTriangle(xs, ys, f % w, f / w) ? 1 : 0;
            }
            StraightSteps x = laid(heap);
            due("lacks", x.heap(4), lacks);
            due("bulges", x.is(0), lacks == 0 ? 1 : 0);
        }
    }

    private static boolean inTriangle(int[] xs, int[] ys, int x, int y) {
        for (int a = 0; a < xs.length; a++) {
            for (int b = 0; b < xs.length; b++) {
                for (int c = 0; c < xs.length; c++) {
                    if (holds(xs, ys, new int[] {a, b, c}, x, y)) {
                        return true;
                    }
                }
            }
        }
        return false;
    }

    /** Three in a line hold what lies in the line between the outer ones of them. */
    private static boolean holds(int[] xs, int[] ys, int[] three, int x, int y) {
        boolean inBox = false;
        boolean left = true;
        for (int i = 0; i < 3; i++) {
            int a = three[i], b = three[(i + 1) % 3];
            left &= (xs[b] - xs[a]) * (y - ys[a]) - (ys[b] - ys[a]) * (x - xs[a]) >= 0;
            inBox |= Math.min(xs[a], xs[b]) <= x && x <= Math.max(xs[a], xs[b])
                && Math.min(ys[a], ys[b]) <= y && y <= Math.max(ys[a], ys[b]);
        }
        int a = three[0], b = three[1], c = three[2];
        boolean flat = (xs[b] - xs[a]) * (ys[c] - ys[a]) == (ys[b] - ys[a]) * (xs[c] - xs[a]);
        return left && (!flat || inBox);
    }

    private static void depths() {
        Sentences.name("What it is", "how far inside each field lies by exact squares");
        for (int seed = 0; seed < HEAPS; seed++) {
            boolean[][] heap = drawn(seed);
            int w = heap[0].length, h = heap.length;
            StraightSteps x = laid(heap);
            for (int f = 0; f < w * h; f++) {
                int least = heap[f / w][f % w] ? 1000 : 0;
                for (int y = -1; y <= h; y++) {
                    for (int c = -1; c <= w; c++) {
                        if (!at(heap, c, y)) {
                            least = Math.min(least, square(f % w - c, f / w - y));
                        }
                    }
                }
                due("deep(" + f + ")", x.deep(f), least);
            }
        }
    }

    private static void ballsMakeTheHeap() {
        Sentences.name("What it is", "the balls that alone make a heap");
        for (int seed = 0; seed < HEAPS; seed++) {
            boolean[][] heap = drawn(seed);
            int w = heap[0].length, h = heap.length;
            StraightSteps x = laid(heap);
            boolean[][] made = new boolean[h][w];
            for (int f = 0; f < w * h; f++) {
                if (x.needed(f) == 1) {
                    addBall(made, f % w, f / w, x.deep(f));
                }
            }
            for (int f = 0; f < w * h; f++) {
                Sentences.dueSo("FIELD " + f + " of heap " + seed, made[f / w][f % w] == heap[f / w][f % w]);
            }
        }
    }

    private static void addBall(boolean[][] made, int x, int y, int deep) {
        for (int toY = 0; toY < made.length; toY++) {
            for (int toX = 0; toX < made[0].length; toX++) {
                made[toY][toX] |= square(toX - x, toY - y) < deep;
            }
        }
    }

    /** Roots of so small numbers that are not alike differ by far more than what is let pass here. */
    private static void neededByRoots() {
        Sentences.terms("A FIELD is NEEDED, if it is of THE HEAP and no other BALL holds its own as a disc");
        for (int seed = 0; seed < HEAPS; seed++) {
            boolean[][] heap = drawn(seed);
            int w = heap[0].length, h = heap.length;
            StraightSteps x = laid(heap);
            int[] deep = new int[w * h];
            for (int f = 0; f < w * h; f++) {
                deep[f] = x.deep(f);
            }
            for (int f = 0; f < w * h; f++) {
                boolean needed = heap[f / w][f % w];
                for (int o = 0; o < w * h; o++) {
                    double way = Math.sqrt(square(f % w - o % w, f / w - o / w));
                    needed &= o == f || Math.sqrt(deep[o]) < way + Math.sqrt(deep[f]) - 1e-9;
                }
                due("needed(" + f + ") of heap " + seed, x.needed(f), needed ? 1 : 0);
            }
        }
    }

    /** What lies within a way of a point, and all else farther, is a disc about it, or about one before it. */
    private static void discs() {
        Sentences.name("What it is", "discs about half fields");
        Sentences.terms("A DISC: there is a point,");
        Random dice = new Random(11);
        for (int n = 0; n < 400; n++) {
            int w = 1 + dice.nextInt(12), h = 1 + dice.nextInt(12);
            int atX = dice.nextInt(2 * w - 1), atY = dice.nextInt(2 * h - 1);
            int farthest = dice.nextInt(n % 2 == 0 ? 40 : 300);
            boolean[][] heap = new boolean[h][w];
            int greatest = -1;
            for (int f = 0; f < w * h; f++) {
                int square = square(2 * (f % w) - atX, 2 * (f / w) - atY);
                heap[f / w][f % w] = square <= farthest;
                greatest = square <= farthest ? Math.max(greatest, square) : greatest;
            }
            StraightSteps x = laid(heap);
            due("is a disc", x.is(2), greatest >= 0 ? 1 : 0);
            if (greatest >= 0) {
                int foundX = x.disc(0), foundY = x.disc(1);
                Sentences.dueSo("not behind the point", foundY < atY || foundY == atY && foundX <= atX);
                aboutIt(heap, foundX, foundY, x.disc(2));
            }
        }
    }

    private static void aboutIt(boolean[][] heap, int atX, int atY, int greatest) {
        boolean met = false;
        for (int y = 0; y < heap.length; y++) {
            for (int x = 0; x < heap[0].length; x++) {
                int square = square(2 * x - atX, 2 * y - atY);
                Sentences.dueSo("nearer than all others", heap[y][x] == square <= greatest);
                met |= square == greatest;
            }
        }
        Sentences.dueSo("the greatest square is of one of the heap", met);
    }

    /** All about one field: it is loose if without it the heap is still one part, and without a hole. */
    private static void looseOrHolding() {
        Sentences.terms("A FIELD of THE HEAP is LOOSE, if");
        for (int eight = 0; eight < 256; eight++) {
            boolean[][] heap = new boolean[3][3];
            for (int f = 0; f < 9; f++) {
                heap[f / 3][f % 3] = f == 4 || (eight >> (f < 4 ? f : f - 1) & 1) == 1;
            }
            StraightSteps x = laid(heap);
            int loose = x.loose(4);
            due("set(4) leaves", x.set(4, false), 1);
            due("loose in " + eight, loose, x.heap(1) == 1 && x.heap(2) == 0 ? 1 : 0);
        }
    }

    /** Loose fields are never what holds parts together or holes apart. */
    private static void thinned() {
        Sentences.name("What it is", "heaps thinned till each field holds them together. ======== 1 THE ROW:");
        Sentences.terms("A THINNING:");
        for (int seed = 0; seed < HEAPS; seed++) {
            boolean[][] heap = drawn(seed);
            int w = heap[0].length, h = heap.length;
            StraightSteps x = laid(heap);
            int parts = x.heap(1), holes = x.heap(2), fields = x.heap(0);
            due("taken, and left", x.thin() + x.heap(0), fields);
            due("parts", x.heap(1), parts);
            due("holes", x.heap(2), holes);
            boolean[][] left = new boolean[h][w];
            for (int f = 0; f < w * h; f++) {
                left[f / w][f % w] = x.has(f) == 1;
                Sentences.dueSo("what is left was of it", heap[f / w][f % w] || !left[f / w][f % w]);
            }
            for (int f = 0; f < w * h; f++) {
                if (left[f / w][f % w] && x.loose(f) == 1) {
                    due("who is loose and left is an end", about(left, f % w, f / w), 1);
                }
            }
        }
    }

    private static int about(boolean[][] heap, int x, int y) {
        int all = heap[y][x] ? -1 : 0;
        for (int n = 0; n < 9; n++) {
            all += at(heap, x - 1 + n % 3, y - 1 + n / 3) ? 1 : 0;
        }
        return all;
    }

    private static int square(int dx, int dy) {
        return dx * dx + dy * dy;
    }

    private static boolean at(boolean[][] heap, int x, int y) {
        return y >= 0 && y < heap.length && x >= 0 && x < heap[0].length && heap[y][x];
    }

    /** Heaps of all densities on grounds of all sizes. */
    private static boolean[][] drawn(int seed) {
        Random dice = new Random(seed);
        boolean[][] heap = new boolean[1 + dice.nextInt(12)][1 + dice.nextInt(12)];
        int of = 1 + seed % 16;
        for (boolean[] line : heap) {
            for (int x = 0; x < line.length; x++) {
                line[x] = dice.nextInt(16) < of;
            }
        }
        return heap;
    }

    private static StraightSteps laid(boolean[][] heap) {
        StraightSteps x = new StraightSteps();
        int w = heap[0].length, h = heap.length;
        due("ground", x.ground(w, h), w * h);
        for (int f = 0; f < w * h; f++) {
            if (heap[f / w][f % w]) {
                due("set", x.set(f, true), 0);
            }
        }
        return x;
    }
}
