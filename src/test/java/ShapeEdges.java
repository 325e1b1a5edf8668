/** Promises 19, 20, 22 and 23, and of the terms hulls, stairs and discs, sentence by sentence at their boundaries. */
final class ShapeEdges {
    private static final int BAD = -1002, NONE = -999;
    private static final int LEAST = Integer.MIN_VALUE, MOST = Integer.MAX_VALUE;

    private ShapeEdges() {
    }

    static void all() {
        lacks();
        stairs();
        is();
        discOrNone();
        discPoints();
        discStrict();
        hull();
        corner();
        behindChanges();
    }

    private static void due(String call, long got, long want) {
        Sentences.due(call, got, want);
    }

    private static void lacks() {
        Sentences.terms("each FIELD whose middle lies in THE HULL (of all middles of its FIELDS; on its rim, too) is"
            + " of it.");
        Sentences.terms("LACKS: how many FIELDS it lacks for that.");
        lacksAre(0, Checks.heap("...", "..."));
        lacksAre(0, Checks.heap("..#", "..."));
        lacksAre(0, Checks.allOf(12, 12));
        lacksAre(10, Checks.heap("#..........#"));
        lacksAre(10, Checks.heap("#", ".", ".", ".", ".", ".", ".", ".", ".", ".", ".", "#"));
        lacksAre(0, Checks.heap(".##...", "......"));
        lacksAre(1, Checks.heap("#....", ".....", "....#"));
        lacksAre(0, Checks.heap("#...", "...#"));
        lacksAre(0, Checks.heap("#..", "...", ".#."));
        lacksAre(1, Checks.heap("#.#", "###"));
        lacksAre(1, Checks.heap("###", "#.#", "###"));
        lacksAre(3, Checks.heap("#..", "...", "#.#"));
        lacksAre(6, Checks.heap("#....", ".....", "..#..", ".....", "#...."));
        int[] corners = {0, 11, 132, 143};
        StraightSteps x = new StraightSteps();
        due("12 by 12", x.ground(12, 12), 144);
        for (int f : corners) {
            due("set(" + f + ")", x.set(f, true), 0);
        }
        lacksAre(140, x);
    }

    private static void lacksAre(int lacks, StraightSteps x) {
        due("heap(4)", x.heap(4), lacks);
        due("is(0)", x.is(0), lacks == 0 ? 1 : 0);
    }

    private static void stairs() {
        Sentences.terms("STAIRS: if of each line, and of each column, its FIELDS stand one beside the other.");
        stairsAre(1, "...", "...");
        stairsAre(1, "#");
        stairsAre(1, "############");
        stairsAre(0, "#.##########");
        stairsAre(0, "##########.#");
        stairsAre(0, "#..........#");
        stairsAre(1, ".##########.");
        stairsAre(1, "#..", "...", "..#");
        stairsAre(1, "#..", "..#");
        stairsAre(1, "..#", "#..");
        stairsAre(0, "#", ".", "#");
        stairsAre(0, "#", ".", ".", ".", ".", ".", ".", ".", ".", ".", ".", "#");
        stairsAre(0, "##", "#.", "##");
        stairsAre(0, "###", "#.#");
        stairsAre(0, "##.", "#..", "##.");
        stairsAre(1, ".#.", "###", ".#.");
        stairsAre(0, "###", "###", "#.#");
        stairsAre(0, "##.", "###", ".##", "#..");
    }

    private static void stairsAre(int so, String... lines) {
        due("is(1) of " + String.join("/", lines), Checks.heap(lines).is(1), so);
    }

    private static void is() {
        Sentences.promise(19, "Whether it BULGES (what = 0), has STAIRS (1), is a DISC (2): 1, 0 (without FIELDS: 1,"
            + " 1, 0). BAD.");
        int[] without = {1, 1, 0};
        int[][] sizes = {{8, 8}, {1, 1}, {12, 12}, {12, 1}};
        for (int[] size : sizes) {
            StraightSteps x = new StraightSteps();
            due("ground", x.ground(size[0], size[1]), (long) size[0] * size[1]);
            for (int what = 0; what < 3; what++) {
                due("is(" + what + ") without FIELDS", x.is(what), without[what]);
            }
            due("set", x.set(0, true), 0);
            due("left again", x.set(0, false), 1);
            for (int what = 0; what < 3; what++) {
                due("is(" + what + ") without FIELDS again", x.is(what), without[what]);
            }
        }
        for (int what = 0; what < 3; what++) {
            due("is(" + what + ") of all", Checks.allOf(12, 12).is(what), 1);
            due("is(" + what + ") of one", Checks.heap("..", "#.").is(what), 1);
            due("is(" + what + ") of two apart", Checks.heap("#.#").is(what), 0);
        }
        for (int what : new int[] {-1, 3, 4, LEAST, MOST}) {
            due("is(" + what + ")", new StraightSteps().is(what), BAD);
            due("is(" + what + ") with a heap", Checks.heap("#").is(what), BAD);
        }
    }

    private static void discOrNone() {
        Sentences.promise(20, "x of the first point about which it is a DISC, in halves (what = 0), y (1), the"
            + " greatest square of the way, in halves (2); NONE. BAD.");
        discIs(new StraightSteps(), NONE, NONE, NONE);
        discIs(Checks.heap("#.#"), NONE, NONE, NONE);
        discIs(Checks.heap("#"), 0, 0, 0);
        discIs(Checks.heap("...", "...", "..#"), 4, 0, 0);
        discIs(Checks.heap("..#", "...", "..."), 4, 4, 0);
        discIs(Checks.allOf(12, 12), 0, 0, 968);
        discIs(Checks.allOf(12, 1), 0, 0, 484);
        discIs(Checks.allOf(1, 12), 0, 0, 484);
        for (int what : new int[] {-1, 3, 4, LEAST, MOST}) {
            due("disc(" + what + ") without FIELDS", new StraightSteps().disc(what), BAD);
            due("disc(" + what + ") of no DISC", Checks.heap("#.#").disc(what), BAD);
            due("disc(" + what + ") of a DISC", Checks.heap("#").disc(what), BAD);
        }
    }

    private static void discIs(StraightSteps d, int x, int y, int square) {
        due("disc(0)", d.disc(0), x);
        due("disc(1)", d.disc(1), y);
        due("disc(2)", d.disc(2), square);
        due("is(2)", d.is(2), square == NONE ? 0 : 1);
    }

    private static void discPoints() {
        Sentences.terms("whole or half each way (0 .. 2 W - 2 and 0 .. 2 H - 2 in halves, FIELD 0's middle being 0,"
            + " 0)");
        discIs(Checks.heap("....", ".##.", ".##.", "...."), 3, 3, 2);
        discIs(Checks.heap("....", ".##.", "...."), 3, 2, 1);
        discIs(Checks.heap("...", ".#.", ".#.", "..."), 2, 3, 1);
        discIs(Checks.heap("...#"), 6, 0, 0);
        discIs(Checks.heap("#", ".", ".", "."), 0, 6, 0);
        discIs(Checks.heap("..##"), 5, 0, 1);
        discIs(Checks.heap("##", "##", "..", ".."), 0, 5, 5);
        discIs(Checks.heap("###", "..."), NONE, NONE, NONE);
        discIs(Checks.heap("...", "###"), NONE, NONE, NONE);
        discIs(Checks.heap(".#", ".#", ".#"), NONE, NONE, NONE);
        discIs(Checks.heap("#.", "#.", "#."), NONE, NONE, NONE);
        Sentences.terms("The first such: by y, then x, in halves.");
        discIs(Checks.heap("##.."), 0, 0, 4);
        discIs(Checks.heap("##", "##"), 0, 0, 8);
        discIs(Checks.heap(".##", ".##", ".##"), 4, 1, 13);
        discIs(Checks.heap("#.", "##"), 0, 0, 4);
        discIs(Checks.heap(".#", "##"), 2, 0, 4);
        discIs(Checks.heap("##", "#."), 0, 2, 4);
        discIs(Checks.heap("##", ".#"), 2, 2, 4);
    }

    private static void discStrict() {
        Sentences.terms("so that all FIELDS of THE HEAP are nearer to it than all others of THE GROUND.");
        discIs(Checks.heap("...", ".##", ".#."), NONE, NONE, NONE);
        discIs(Checks.heap("...", "##.", "##."), 0, 0, 8);
        discIs(Checks.heap("....", ".##.", ".#..", "...."), NONE, NONE, NONE);
        discIs(Checks.heap(".#.", "###", ".#."), 2, 2, 4);
        discIs(Checks.heap(".#.", "##.", ".#."), NONE, NONE, NONE);
        discIs(Checks.heap("###", "#.#", "###"), NONE, NONE, NONE);
        discIs(Checks.heap(".#", "#."), NONE, NONE, NONE);
        discIs(Checks.heap("#.##"), NONE, NONE, NONE);
    }

    private static void hull() {
        Sentences.promise(22, "Corners of THE HULL: how many (1 for one FIELD, 2 if all lie in a line).");
        due("no FIELDS", new StraightSteps().hull(), 0);
        due("one FIELD", Checks.heap("...", ".#.").hull(), 1);
        due("the only FIELD", Checks.heap("#").hull(), 1);
        due("two", Checks.heap("##").hull(), 2);
        due("two far apart", Checks.heap("#....", "....#").hull(), 2);
        due("a whole line", Checks.allOf(12, 1).hull(), 2);
        due("a whole column", Checks.allOf(1, 12).hull(), 2);
        due("aslant up", Checks.heap("..#", ".#.", "#..").hull(), 2);
        due("aslant down", Checks.heap("#..", ".#.", "..#").hull(), 2);
        due("a line with gaps", Checks.heap("#....", ".....", "..#..", ".....", "....#").hull(), 2);
        due("two of a line, and two others", Checks.heap("#.#.", "...#", "#...").hull(), 4);
        due("three, not in a line", Checks.heap("#..", "..#", "#..").hull(), 3);
        due("just not in a line", Checks.heap("..........##", "#...........").hull(), 3);
        due("on the rim, but no corner", Checks.heap("###", "###", "###").hull(), 4);
        due("all", Checks.allOf(12, 12).hull(), 4);
        due("sixteen", Checks.heap(
            "....##....",
            "..#....#..",
            ".#......#.",
            "..........",
            "#........#",
            "#........#",
            "..........",
            ".#......#.",
            "..#....#..",
            "....##....").hull(), 16);
    }

    private static void corner() {
        Sentences.promise(23, "The FIELD of the i-th of them: against the clock, from that of the least x, of like"
            + " ones the least y; NONE.");
        due("asked ahead of all else", Checks.heap("##", "##").corner(2), 3);
        due("asked ahead of all else, none", Checks.heap("..").corner(0), NONE);
        corners(new StraightSteps());
        corners(Checks.heap("..", ".#"), 1);
        corners(Checks.heap("##"), 0, 1);
        corners(Checks.heap("#", "#"), 0, 1);
        corners(Checks.heap("#.", ".#"), 2, 1);
        corners(Checks.heap(".#", "#."), 0, 3);
        corners(Checks.heap("##", "##"), 0, 1, 3, 2);
        corners(Checks.heap("##", ".#"), 2, 1, 3);
        corners(Checks.heap("##", "#."), 0, 3, 2);
        corners(Checks.heap(".#", "##"), 0, 1, 3);
        corners(Checks.heap("#.", "##"), 0, 1, 2);
        corners(Checks.heap("#.#", "...", "#.#"), 0, 2, 8, 6);
        corners(Checks.heap(".#.", "#.#", ".#."), 3, 1, 5, 7);
        corners(Checks.allOf(12, 12), 0, 11, 143, 132);
        corners(Checks.allOf(12, 1), 0, 11);
        corners(Checks.allOf(1, 12), 0, 11);
    }

    /** Nothing of an earlier hull or disc is told of a heap that is another one by now. */
    private static void behindChanges() {
        Sentences.terms("THE HEAP is a set of them (none at first).");
        StraightSteps x = Checks.heap("###", "###", "###");
        corners(x, 0, 2, 8, 6);
        discIs(x, 0, 0, 32);
        due("set(8) leaves", x.set(8, false), 1);
        due("corner(3)", x.corner(3), 7);
        due("disc(2)", x.disc(2), 20);
        due("thin() leaves 4 and 7", x.thin(), 6);
        due("corner(0)", x.corner(0), 4);
        due("corner(1)", x.corner(1), 7);
        due("corner(2)", x.corner(2), NONE);
        due("ground", x.ground(2, 2), 4);
        due("corner(0)", x.corner(0), NONE);
        due("disc(0)", x.disc(0), NONE);
        due("set(3)", x.set(3, true), 0);
        due("corner(0)", x.corner(0), 3);
        due("corner(1)", x.corner(1), NONE);
        discIs(x, 2, 2, 0);
        StraightSteps y = Checks.heap("###", "###", "###");
        lacksAre(0, y);
        for (int f : new int[] {1, 2, 3, 4, 5, 7, 8}) {
            due("set(" + f + ") leaves", y.set(f, false), 1);
        }
        lacksAre(1, y);
        corners(y, 0, 6);
    }

    private static void corners(StraightSteps x, int... fields) {
        due("hull()", x.hull(), fields.length);
        for (int i = 0; i < fields.length; i++) {
            due("corner(" + i + ")", x.corner(i), fields[i]);
        }
        for (int i : new int[] {fields.length, fields.length + 1, 24, 143, -1, LEAST, MOST}) {
            due("corner(" + i + ")", x.corner(i), NONE);
        }
    }
}
