/** Promises 14 to 23: the ground, what a heap is, its parts and its hull; and 31, what is counted. */
public final class HeapTest {
    private static final int UNKNOWN = -1001, BAD = -1002, STATE = -1003, NONE = -999;
    private static final int LEAST = Integer.MIN_VALUE, MOST = Integer.MAX_VALUE;

    private HeapTest() {
    }

    public static void main(String[] args) {
        ground();
        setAndHas();
        fillOpen();
        fillShut();
        fillRefused();
        heapCounts();
        holes();
        lacks();
        is();
        disc();
        part();
        hull();
        count();
        Checks.end("HeapTest");
    }

    private static void same(String what, long got, long want) {
        Checks.same(what, got, want);
    }

    private static void ground() {
        StraightSteps x = Checks.row("01");
        same("14 set", x.set(63, true), 0);
        for (int n : new int[] {0, 13, -1, LEAST, MOST}) {
            same("14 w " + n, x.ground(n, 5), BAD);
            same("14 h " + n, x.ground(5, n), BAD);
        }
        same("14 refused: W", x.count(1), 8);
        same("14 refused: heap", x.has(63), 1);
        same("14 same size", x.ground(8, 8), 64);
        same("14 no heap", x.heap(0), 0);
        same("14 steps stay", x.count(0), 2);
        same("14 12 by 1", x.ground(12, 1), 12);
        same("14 W", x.count(1), 12);
        same("14 H", x.count(2), 1);
        same("14 1 by 12", x.ground(1, 12), 12);
        same("14 12 by 12", x.ground(12, 12), 144);
        same("14 last field", x.set(143, true), 0);
        same("14 behind", x.set(144, true), UNKNOWN);
        same("14 small", x.ground(2, 3), 6);
        same("14 large again", x.ground(12, 12), 144);
        same("14 no old heap", x.has(143), 0);
    }

    private static void setAndHas() {
        StraightSteps x = new StraightSteps();
        same("15 new", x.set(9, true), 0);
        same("15 again", x.set(9, true), 1);
        same("16 has", x.has(9), 1);
        same("16 has beside", x.has(8), 0);
        same("15 leaves", x.set(9, false), 1);
        same("16 gone", x.has(9), 0);
        same("15 gone", x.set(9, false), 0);
        same("15 last", x.set(63, true), 0);
        for (int f : new int[] {64, -1, LEAST, MOST}) {
            same("15 set " + f, x.set(f, true), UNKNOWN);
            same("15 clear " + f, x.set(f, false), UNKNOWN);
            same("16 has " + f, x.has(f), UNKNOWN);
        }
        same("15 fields", x.heap(0), 1);
    }

    private static void fillOpen() {
        StraightSteps x = Checks.row("0132");
        same("17 ground", x.ground(4, 5), 20);
        same("17 set", x.set(0, true), 0);
        same("17 fill", x.fill(5, false), 6);
        Checks.pictured("17 fill", x,
            "..#.",
            "..#.",
            "...#",
            ".##.",
            "#...");
        same("17 again", x.fill(5, false), 6);
        StraightSteps y = new StraightSteps();
        same("17 no steps", y.fill(63, false), 1);
        same("17 no steps, has", y.has(63), 1);
    }

    private static void fillShut() {
        StraightSteps x = Checks.row("1357");
        Checks.lay(x,
            "#....",
            ".....",
            ".....",
            ".....",
            ".....");
        same("17 rhomb, open", x.fill(7, false), 5);
        same("17 rhomb, shut", x.fill(7, true), 6);
        Checks.pictured("17 rhomb", x,
            "#....",
            "..#..",
            ".###.",
            "..#..",
            ".....");
        StraightSteps y = new StraightSteps();
        same("17 no steps, shut", y.fill(0, true), 1);
        heapDoesNotShut();
        edgeIsOpen();
        twoRooms();
    }

    /** Only the row shuts in: what a heap shuts in stays out, and a heap inside is no wall. */
    private static void heapDoesNotShut() {
        StraightSteps x = Checks.row("04");
        Checks.lay(x,
            "####.....",
            "#..#.....",
            "#..#.....",
            "####.....");
        same("17 heap no wall", x.fill(7, true), 14);
        same("17 inside not filled", x.has(10), 0);
        StraightSteps y = Checks.row("000222444666");
        Checks.lay(y,
            "....",
            ".##.",
            ".#..",
            "....");
        same("17 heap within", y.fill(0, true), 16);
    }

    private static void edgeIsOpen() {
        StraightSteps x = Checks.row("7153");
        same("17 ground", x.ground(3, 2), 6);
        same("17 there and back on the edge", x.fill(3, true), 3);
        same("17 edge field between", x.has(4), 0);
        StraightSteps y = Checks.row("1753");
        same("17 out of two lines", y.fill(0, true), BAD);
        StraightSteps z = Checks.row("0153");
        same("17 ground 3 by 2", z.ground(3, 2), 6);
        same("17 comes not back", z.fill(0, true), STATE);
        StraightSteps v = Checks.row("15");
        same("17 ground 2 by 2", v.ground(2, 2), 4);
        same("17 edge fields come to the edge", v.fill(0, true), 2);
        same("17 edge field", v.has(1), 0);
    }

    private static void twoRooms() {
        StraightSteps x = Checks.row("13571357");
        same("17 ground", x.ground(7, 3), 21);
        same("17 twice round", x.fill(1, true), 5);
        StraightSteps y = Checks.row("7135" + "7" + "7135" + "3");
        same("17 ground 6 by 6", y.ground(6, 6), 36);
        same("17 two rooms", y.fill(25, true), 8);
        Checks.pictured("17 two rooms", y,
            "..#...",
            ".###..",
            "..###.",
            "...#..",
            "......",
            "......");
    }

    private static void fillRefused() {
        StraightSteps x = Checks.row("0");
        same("17 ground", x.ground(3, 3), 9);
        for (int f : new int[] {9, -1, LEAST, MOST}) {
            same("17 fill " + f, x.fill(f, false), UNKNOWN);
            same("17 shut " + f, x.fill(f, true), UNKNOWN);
        }
        same("17 beyond", x.fill(2, false), BAD);
        same("17 beyond, shut", x.fill(2, true), BAD);
        same("17 not back", x.fill(0, true), STATE);
        same("17 nothing changed", x.heap(0), 0);
        same("17 step", x.step(4), 2);
        same("17 only a place between is beyond", x.fill(2, true), BAD);
        same("17 nothing changed still", x.heap(0), 0);
        same("17 back", x.fill(0, true), 2);
        StraightSteps up = Checks.row("2");
        same("17 above the highest", up.fill(56, false), BAD);
        StraightSteps down = Checks.row("6");
        same("17 under the lowest", down.fill(7, false), BAD);
        StraightSteps left = Checks.row("4");
        same("17 left of the first", left.fill(8, false), BAD);
        StraightSteps past = Checks.row("042");
        same("17 was back, went on", past.fill(0, true), STATE);
    }

    private static void heapIs(StraightSteps x, int fields, int parts, int holes, int rims, int lacks) {
        same("18 fields", x.heap(0), fields);
        same("18 parts", x.heap(1), parts);
        same("18 holes", x.heap(2), holes);
        same("18 rims", x.heap(3), rims);
        same("18 lacks", x.heap(4), lacks);
    }

    private static void heapCounts() {
        StraightSteps x = new StraightSteps();
        heapIs(x, 0, 0, 0, 0, 0);
        for (int what : new int[] {5, -1, LEAST, MOST}) {
            same("18 heap " + what, x.heap(what), BAD);
        }
        heapIs(Checks.heap("#"), 1, 1, 0, 4, 0);
        heapIs(Checks.heap("##", "##"), 4, 1, 0, 8, 0);
        heapIs(Checks.heap("#.", ".#"), 2, 1, 0, 8, 0);
        heapIs(Checks.heap("#.#.#"), 3, 3, 0, 12, 2);
        heapIs(Checks.heap("#....", "...#.", "#..#."), 4, 3, 0, 14, 5);
    }

    private static void holes() {
        heapIs(Checks.heap(
            ".....",
            "..#..",
            ".#.#.",
            "..#..",
            "....."), 4, 1, 1, 16, 1);
        heapIs(Checks.heap(
            ".###",
            "#.##",
            "##.#",
            "###."), 12, 1, 2, 24, 2);
        heapIs(Checks.heap(
            "#####",
            "#.#.#",
            "#.#.#",
            "#####"), 16, 1, 2, 30, 4);
        heapIs(Checks.heap(
            "#.###",
            "#...#",
            "#####"), 11, 1, 0, 24, 4);
        heapIs(Checks.heap(
            "#######",
            "#.....#",
            "#.###.#",
            "#.#.#.#",
            "#.###.#",
            "#.....#",
            "#######"), 32, 2, 2, 64, 17);
    }

    private static void lacks() {
        same("18 whole square", Checks.heap("#..#", "....", "....", "#..#").heap(4), 12);
        same("18 on the rim", Checks.heap("#....", ".....", "....#").heap(4), 1);
        same("18 beside the rim", Checks.heap("#...", "...#").heap(4), 0);
        same("18 triangle", Checks.heap("#...", "....", "....", "#..#").heap(4), 7);
        same("18 column", Checks.heap("#.", "..", "..", "#.").heap(4), 2);
        same("18 line apart from the end", Checks.heap(".#...#.").heap(4), 3);
    }

    private static void isSo(StraightSteps x, int bulges, int stairs, int disc) {
        same("19 bulges", x.is(0), bulges);
        same("19 stairs", x.is(1), stairs);
        same("19 disc", x.is(2), disc);
    }

    private static void is() {
        StraightSteps x = new StraightSteps();
        isSo(x, 1, 1, 0);
        for (int what : new int[] {3, -1, LEAST, MOST}) {
            same("19 is " + what, x.is(what), BAD);
        }
        isSo(Checks.heap("#"), 1, 1, 1);
        isSo(Checks.heap("###", "###"), 1, 1, 1);
        isSo(Checks.heap("#..", ".#.", "..#"), 1, 1, 0);
        isSo(Checks.heap("#..", "...", "..#"), 0, 1, 0);
        isSo(Checks.heap("#.#", "..."), 0, 0, 0);
        isSo(Checks.heap("#.", "..", "#."), 0, 0, 0);
        isSo(Checks.heap("..#", "###", "###"), 1, 1, 0);
        isSo(Checks.heap("..#", "..#", "###"), 0, 1, 0);
        isSo(Checks.heap("###", "#.#", "#.#"), 0, 0, 0);
        isSo(Checks.heap("###", "#..", "###"), 0, 0, 0);
        isSo(Checks.heap("..#..", ".###.", "..#.."), 1, 1, 1);
        isSo(Checks.heap("#....", "....#"), 1, 1, 0);
        isSo(Checks.heap("...........#", "############"), 1, 1, 0);
    }

    private static void discIs(StraightSteps d, int x, int y, int square) {
        same("20 x", d.disc(0), x);
        same("20 y", d.disc(1), y);
        same("20 square", d.disc(2), square);
    }

    private static void disc() {
        StraightSteps x = new StraightSteps();
        discIs(x, NONE, NONE, NONE);
        for (int what : new int[] {3, -1, LEAST, MOST}) {
            same("20 disc " + what, x.disc(what), BAD);
        }
        same("20 set", x.set(27, true), 0);
        discIs(x, 6, 6, 0);
        discIs(Checks.heap("#"), 0, 0, 0);
        discIs(Checks.heap("###", "###"), 0, 0, 20);
        discIs(Checks.heap("...", "...", "##."), 1, 0, 1);
        discIs(Checks.heap("##", ".#"), 2, 2, 4);
        discIs(Checks.heap("....", ".##.", ".##.", "...."), 3, 3, 2);
        discIs(Checks.heap(".....", "..#..", ".###.", "..#..", "....."), 4, 4, 4);
        discIs(Checks.heap("#.#"), NONE, NONE, NONE);
        discIs(Checks.heap("..##"), 5, 0, 1);
        discIs(Checks.heap("#", "#", ".", "."), 0, 5, 1);
        same("20 all of 12 by 12", Checks.allOf(12, 12).disc(2), 22 * 22 * 2);
        discFirst();
    }

    /** Where several points are good, y is looked at before x: in the last heap 4, 1 comes ahead of 3, 2. */
    private static void discFirst() {
        discIs(Checks.heap("##.."), 0, 0, 4);
        discIs(Checks.heap("###."), 0, 0, 16);
        discIs(Checks.heap(".###"), 4, 0, 4);
        discIs(Checks.heap(".##", ".##", ".##"), 4, 1, 13);
    }

    private static void part() {
        StraightSteps x = Checks.heap(
            "#...#",
            ".#...",
            "...##",
            "#..#.");
        same("21 first", x.part(0), 0);
        same("21 lowest of three", x.part(9), 3);
        same("21 itself the least", x.part(3), 3);
        same("21 across a corner", x.part(15), 11);
        same("21 alone", x.part(19), 19);
        same("21 not of it", x.part(1), NONE);
        for (int f : new int[] {20, -1, LEAST, MOST}) {
            same("21 part " + f, x.part(f), UNKNOWN);
        }
        StraightSteps hook = Checks.heap(
            "####",
            "#..#",
            "#...",
            "#.#.");
        same("21 hook", hook.part(11), 0);
        same("21 beside the hook", hook.part(2), 2);
        StraightSteps wrap = Checks.heap("..#", "#..");
        same("21 line ends do not touch", wrap.part(5), 5);
    }

    private static void corners(StraightSteps x, int... fields) {
        same("22 corners", x.hull(), fields.length);
        for (int i = 0; i < fields.length; i++) {
            same("23 corner " + i, x.corner(i), fields[i]);
        }
        for (int i : new int[] {fields.length, -1, LEAST, MOST}) {
            same("23 corner " + i, x.corner(i), NONE);
        }
    }

    private static void hull() {
        corners(new StraightSteps());
        corners(Checks.heap("...", ".#.", "..."), 4);
        corners(Checks.heap("##.##"), 0, 4);
        corners(Checks.heap("#", "#", "#"), 0, 2);
        corners(Checks.heap("#..", ".#.", "..#"), 6, 2);
        corners(Checks.heap("..#", ".#.", "#.."), 0, 8);
        corners(Checks.heap("###", "###", "###"), 0, 2, 8, 6);
        corners(Checks.heap(".#.", "#.#", ".#."), 3, 1, 5, 7);
        corners(Checks.heap("#..", "##.", "###"), 0, 2, 6);
        corners(Checks.heap("..#", ".##", "###"), 0, 2, 8);
        corners(Checks.heap(".##.", "#..#", "#..#", ".##."), 4, 1, 2, 7, 11, 14, 13, 8);
        corners(Checks.heap("#...#", ".....", "..#.."), 10, 2, 14);
        roundHull();
        corners(Checks.allOf(12, 12), 0, 11, 143, 132);
        corners(Checks.allOf(1, 12), 0, 11);
    }

    /** As many corners as a hull has here, with fields on its rim and within that are none. */
    private static void roundHull() {
        int[] round = {40, 21, 12, 4, 5, 17, 28, 49, 59, 78, 87, 95, 94, 82, 71, 50};
        StraightSteps x = new StraightSteps();
        same("22 ground", x.ground(10, 10), 100);
        for (int f : round) {
            same("22 set", x.set(f, true), 0);
        }
        corners(x, round);
        same("22 set within", x.set(44, true), 0);
        corners(x, round);
    }

    private static void count() {
        StraightSteps x = Checks.row("0123456");
        same("31 steps", x.count(0), 7);
        same("31 even steps", x.count(3), 4);
        same("31 back", x.back(1), 6);
        same("31 even steps behind", x.count(3), 3);
        for (int what : new int[] {5, -1, LEAST, MOST}) {
            same("31 count " + what, x.count(what), BAD);
        }
        Checks.lay(x,
            "#..##",
            "..##.",
            "#....",
            ".#.#.");
        same("31 W", x.count(1), 5);
        same("31 H", x.count(2), 4);
        same("31 edge", x.count(4), 6);
        same("31 a line is all edge", Checks.heap("##.#").count(4), 3);
        same("31 a column is all edge", Checks.heap("#", "#", "#").count(4), 3);
        same("31 edge of all", Checks.allOf(12, 12).count(4), 44);
        same("31 edge of 8 by 8", Checks.allOf(8, 8).count(4), 28);
    }
}
