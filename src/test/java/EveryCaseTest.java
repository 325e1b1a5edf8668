/** What is small enough is tried whole: all drawings, all words, short rows, and heaps on small grounds. */
public final class EveryCaseTest {
    private static final int LONGEST_OF_TWO = 12;
    private static final int MOST_FIELDS = 12;

    private EveryCaseTest() {
    }

    public static void main(String[] args) {
        everyDrawing();
        everyWord();
        everyShortRow();
        everyRowOfTwoWays();
        everySmallHeap();
        everyEight();
        Checks.end("EveryCaseTest");
    }

    private static void same(String what, long got, long want) {
        Checks.same(what, got, want);
    }

    private static void everyDrawing() {
        for (int u = -61; u <= 61; u++) {
            for (int v = -61; v <= 61; v++) {
                StraightSteps x = new StraightSteps();
                Model model = new Model();
                String name = "draw(" + u + ", " + v + ")";
                int m = x.draw(u, v);
                same(name, m, model.draw(u, v));
                for (int i = 0; i < m; i++) {
                    same(name + ", way(" + i + ")", x.way(i), model.way(i));
                }
                if (m > 0) {
                    same(name + " is straight", x.straight(0, m), 1);
                    holdsSlope(name, x, m, Math.min(Math.abs(u), Math.abs(v)));
                }
            }
        }
    }

    /** The drawn line is one of those whose picture the row is: its own slope lies in the span. */
    private static void holdsSlope(String name, StraightSteps x, int m, int aside) {
        int low = x.span(0, m, false, true) * m - aside * x.span(0, m, false, false);
        int high = x.span(0, m, true, true) * m - aside * x.span(0, m, true, false);
        Checks.holds(name + ": its slope is above the lower end", low < 0);
        Checks.holds(name + ": its slope is below the upper end", high > 0);
    }

    private static void everyWord() {
        Model model = new Model();
        for (int p = 1; p <= 60; p++) {
            for (int q = 0; q <= p; q++) {
                StraightSteps x = new StraightSteps();
                for (int i = 0; i < p; i++) {
                    int letter = x.word(p, q, i);
                    same("word(" + p + ", " + q + ", " + i + ")", letter, model.word(p, q, i));
                    same("step of it", x.step(letter), i + 1);
                }
                same("the word of " + p + ", " + q + " is straight", x.straight(0, p), 1);
                same("all its asides", p - x.count(3), q);
            }
        }
    }

    private static void everyShortRow() {
        for (int length = 0; length <= 4; length++) {
            for (int row = 0; row < 1 << (3 * length); row++) {
                StringBuilder ways = new StringBuilder();
                for (int i = 0; i < length; i++) {
                    ways.append(row >> (3 * i) & 7);
                }
                compareRow(ways.toString());
            }
        }
    }

    private static void everyRowOfTwoWays() {
        for (int length = 5; length <= LONGEST_OF_TWO; length++) {
            for (int row = 0; row < 1 << length; row++) {
                int first = row * 5 % 8;
                StringBuilder ways = new StringBuilder();
                for (int i = 0; i < length; i++) {
                    ways.append((first + (row >> i & 1)) % 8);
                }
                compareRow(ways.toString());
            }
        }
    }

    private static void compareRow(String ways) {
        StraightSteps x = new StraightSteps();
        Model model = new Model();
        int to = ways.length();
        for (int i = 0; i < to; i++) {
            int way = ways.charAt(i) - '0';
            same("step of " + ways, x.step(way), model.step(way));
        }
        same("straight of " + ways, x.straight(0, to), model.straight(0, to));
        for (int kind = 0; kind < 4; kind++) {
            boolean high = kind > 1;
            boolean upper = kind % 2 == 1;
            same("span of " + ways, x.span(0, to, high, upper), model.span(0, to, high, upper));
        }
        same("plain above of " + ways, x.plain(0, to, true), model.plain(0, to, true));
        same("plain below of " + ways, x.plain(0, to, false), model.plain(0, to, false));
        same("longest of " + ways, x.longest(false), model.longest(false));
        same("its begin of " + ways, x.longest(true), model.longest(true));
        same("pieces of " + ways, x.pieces(), model.pieces());
        for (int i = -1; i <= to; i++) {
            same("pieceEnd(" + i + ") of " + ways, x.pieceEnd(i), model.pieceEnd(i));
        }
        same("place of " + ways, x.place(to, true), model.place(to, true));
    }

    private static void everySmallHeap() {
        for (int w = 1; w <= 12; w++) {
            for (int h = 1; h <= 12; h++) {
                for (int heap = 0; w * h <= MOST_FIELDS && heap < 1 << (w * h); heap++) {
                    compareHeap(w, h, heap);
                }
            }
        }
    }

    private static void compareHeap(int w, int h, int heap) {
        StraightSteps x = new StraightSteps();
        Model model = new Model();
        String name = " of heap " + heap + " on " + w + " by " + h;
        same("ground", x.ground(w, h), model.ground(w, h));
        for (int f = 0; f < w * h; f++) {
            if ((heap >> f & 1) == 1) {
                same("set(" + f + ")" + name, x.set(f, true), model.set(f, true));
            }
        }
        for (int what = 0; what < 5; what++) {
            same("heap(" + what + ")" + name, x.heap(what), model.heap(what));
            same("is(" + what + ")" + name, x.is(what), model.is(what));
            same("disc(" + what + ")" + name, x.disc(what), model.disc(what));
            same("count(" + what + ")" + name, x.count(what), model.count(what));
        }
        int corners = model.hull();
        same("hull()" + name, x.hull(), corners);
        for (int i = -1; i <= corners; i++) {
            same("corner(" + i + ")" + name, x.corner(i), model.corner(i));
        }
        for (int f = -1; f <= w * h; f++) {
            same("part(" + f + ")" + name, x.part(f), model.part(f));
            same("deep(" + f + ")" + name, x.deep(f), model.deep(f));
            same("needed(" + f + ")" + name, x.needed(f), model.needed(f));
            same("loose(" + f + ")" + name, x.loose(f), model.loose(f));
        }
        same("deepest(false)" + name, x.deepest(false), model.deepest(false));
        same("deepest(true)" + name, x.deepest(true), model.deepest(true));
        same("balls()" + name, x.balls(), model.balls());
        same("thinning()" + name, x.thinning(), model.thinning());
        sameFields("thinning()" + name, x, model);
        same("thin()" + name, x.thin(), model.thin());
        sameFields("thin()" + name, x, model);
    }

    private static void sameFields(String name, StraightSteps x, Model model) {
        for (int f = 0; f < model.count(1) * model.count(2); f++) {
            same("has(" + f + ") behind " + name, x.has(f), model.has(f));
        }
    }

    /** All that may stand about a field, within the ground and with the field on each of its edges. */
    private static void everyEight() {
        int[][] middles = {{1, 1, 4, 4}, {0, 0, 2, 3}, {2, 0, 3, 3}, {0, 2, 3, 3}, {2, 2, 3, 3}, {1, 0, 3, 2}};
        for (int[] at : middles) {
            int w = at[2];
            int h = at[3];
            for (int eight = 0; eight < 256; eight++) {
                StraightSteps x = new StraightSteps();
                Model model = new Model();
                same("ground", x.ground(w, h), model.ground(w, h));
                int bit = 0;
                for (int f = 0; f < 9; f++) {
                    boolean is = f == 4 || (eight >> bit++ & 1) == 1;
                    int column = at[0] + f % 3 - 1;
                    int line = at[1] + f / 3 - 1;
                    if (is && column >= 0 && column < w && line >= 0 && line < h) {
                        same("set", x.set(line * w + column, true), model.set(line * w + column, true));
                    }
                }
                int middle = at[1] * w + at[0];
                String name = "loose(" + middle + ") of " + eight + " on " + w + " by " + h;
                same(name, x.loose(middle), model.loose(middle));
                same("thinning() for " + name, x.thinning(), model.thinning());
                same("has(" + middle + ") behind it", x.has(middle), model.has(middle));
            }
        }
    }
}
