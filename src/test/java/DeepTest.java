/** Promises 24 to 30: how deep fields lie, which balls are needed, and thinning. */
public final class DeepTest {
    private static final int UNKNOWN = -1001, NONE = -999;
    private static final int LEAST = Integer.MIN_VALUE, MOST = Integer.MAX_VALUE;

    private DeepTest() {
    }

    public static void main(String[] args) {
        deep();
        deepest();
        needed();
        balls();
        loose();
        thinning();
        thinningInOrder();
        thin();
        Checks.end("DeepTest");
    }

    private static void same(String what, long got, long want) {
        Checks.same(what, got, want);
    }

    private static void deep() {
        StraightSteps x = Checks.allOf(5, 4);
        int[] due = {1, 1, 1, 1, 1, 1, 4, 4, 4, 1, 1, 4, 4, 4, 1, 1, 1, 1, 1, 1};
        for (int f = 0; f < 20; f++) {
            same("24 deep " + f, x.deep(f), due[f]);
        }
        for (int f : new int[] {20, -1, LEAST, MOST}) {
            same("24 deep " + f, x.deep(f), UNKNOWN);
        }
        same("24 take", x.set(0, false), 1);
        same("24 not of it", x.deep(0), 0);
        same("24 across a corner", x.deep(6), 2);
        same("24 as before", x.deep(7), 4);
        StraightSteps big = Checks.allOf(11, 11);
        same("24 middle", big.deep(60), 36);
        same("24 take far", big.set(60 + 33 + 4, false), 1);
        same("24 three and four", big.deep(60), 25);
        same("24 take nearer", big.set(60 - 22 - 4, false), 1);
        same("24 two and four", big.deep(60), 20);
        same("24 of nothing", new StraightSteps().deep(5), 0);
    }

    private static void deepest() {
        StraightSteps x = new StraightSteps();
        same("25 none", x.deepest(false), 0);
        same("25 none, field", x.deepest(true), NONE);
        same("25 set", x.set(63, true), 0);
        same("25 one", x.deepest(false), 1);
        same("25 one, field", x.deepest(true), 63);
        same("25 all of 5 by 4", Checks.allOf(5, 4).deepest(false), 4);
        same("25 first of 5 by 4", Checks.allOf(5, 4).deepest(true), 6);
        same("25 all of 12 by 12", Checks.allOf(12, 12).deepest(false), 36);
        same("25 first of 12 by 12", Checks.allOf(12, 12).deepest(true), 65);
    }

    private static void needed() {
        StraightSteps x = Checks.allOf(3, 3);
        int[] due = {1, 0, 1, 0, 1, 0, 1, 0, 1};
        for (int f = 0; f < 9; f++) {
            same("26 needed " + f, x.needed(f), due[f]);
        }
        for (int f : new int[] {9, -1, LEAST, MOST}) {
            same("26 needed " + f, x.needed(f), UNKNOWN);
        }
        same("26 take", x.set(4, false), 1);
        same("26 not of it", x.needed(4), 0);
        same("26 held no more", x.needed(1), 1);
        StraightSteps line = Checks.allOf(5, 3);
        same("26 like deep ones do not hold one another", line.needed(7), 1);
        same("26 held by one of them", line.needed(2), 0);
        StraightSteps big = Checks.allOf(9, 9);
        same("26 middle", big.needed(40), 1);
        same("26 straight under the middle", big.needed(31), 0);
        same("26 aslant of the middle", big.needed(30), 1);
    }

    private static void balls() {
        same("27 none", new StraightSteps().balls(), 0);
        same("27 one", Checks.heap("#").balls(), 1);
        same("27 all of 3 by 3", Checks.allOf(3, 3).balls(), 5);
        same("27 all of 2 by 2", Checks.allOf(2, 2).balls(), 4);
        same("27 all of 5 by 3", Checks.allOf(5, 3).balls(), 3 + 4);
        same("27 all of 12 by 1", Checks.allOf(12, 1).balls(), 12);
    }

    private static void looseIs(int so, String... lines) {
        StraightSteps x = Checks.heap(lines);
        same("28 loose " + String.join("/", lines), x.loose(x.count(1) + 1), so);
    }

    private static void loose() {
        looseIs(0, "...", ".#.", "...");
        looseIs(1, "#..", ".#.", "...");
        looseIs(1, ".#.", ".#.", "...");
        looseIs(0, "#..", ".#.", "..#");
        looseIs(0, ".#.", ".#.", ".#.");
        looseIs(1, ".#.", ".##", "...");
        looseIs(1, ".##", ".##", "...");
        looseIs(0, "#.#", ".#.", "...");
        looseIs(1, "###", ".#.", "...");
        looseIs(1, "###", "##.", "###");
        looseIs(0, "###", ".#.", "###");
        looseIs(0, "###", "###", "###");
        looseIs(0, ".#.", "###", ".#.");
        looseIs(1, ".#.", "###", "...");
        looseIs(0, "###", "###", "##.");
        looseIs(0, ".#.", "##.", "..#");
        looseIs(0, "###", "...", "...");
        StraightSteps edge = Checks.allOf(2, 1);
        same("28 at the edge", edge.loose(0), 1);
        same("28 alone", Checks.heap("#").loose(0), 0);
        same("28 corner of all", Checks.allOf(4, 4).loose(0), 1);
        same("28 side of all", Checks.allOf(4, 4).loose(7), 1);
        same("28 within all", Checks.allOf(4, 4).loose(5), 0);
        StraightSteps line = Checks.heap("#..", "###");
        for (int f : new int[] {6, -1, LEAST, MOST}) {
            same("28 loose " + f, line.loose(f), UNKNOWN);
        }
        same("28 not of it", line.loose(5), 0);
    }

    private static void thinning() {
        same("29 none", new StraightSteps().thinning(), 0);
        StraightSteps one = Checks.heap("#");
        same("29 one", one.thinning(), 0);
        StraightSteps line = Checks.heap("#####");
        same("29 line", line.thinning(), 0);
        StraightSteps ring = Checks.heap(".#.", "#.#", ".#.");
        same("29 ring", ring.thinning(), 0);
        StraightSteps square = Checks.allOf(3, 3);
        same("29 square", square.thinning(), 7);
        Checks.pictured("29 square", square, "..#", ".#.", "...");
    }

    /** Who was within at the beginning stays, though it stands free when its turn comes. */
    private static void thinningInOrder() {
        StraightSteps x = Checks.allOf(5, 5);
        int taken = x.thinning();
        same("29 fields left", x.heap(0), 25 - taken);
        for (int f : new int[] {6, 7, 8, 11, 12, 13, 16, 17, 18}) {
            same("29 within " + f, x.has(f), 1);
        }
        same("29 one part", x.heap(1), 1);
        StraightSteps two = Checks.heap("##", "##");
        same("29 two by two", two.thinning(), 2);
        Checks.pictured("29 two by two", two, "##", "..");
        StraightSteps hole = Checks.heap(
            "####",
            "#.##",
            "####");
        same("29 with a hole", hole.heap(2), 1);
        same("29 takes", hole.thinning(), 6);
        Checks.pictured("29 with a hole", hole,
            ".#.#",
            "#.#.",
            ".#..");
        same("29 the hole stays", hole.heap(2), 1);
    }

    private static void thin() {
        same("30 none", new StraightSteps().thin(), 0);
        StraightSteps x = Checks.allOf(12, 12);
        int first = Checks.allOf(12, 12).thinning();
        int all = x.thin();
        same("30 all taken", x.heap(0), 144 - all);
        Checks.holds("30 more than one thinning", all > first);
        same("30 no more", x.thinning(), 0);
        same("30 one part", x.heap(1), 1);
        StraightSteps row = Checks.heap(
            ".......",
            ".#####.",
            ".#####.",
            ".#####.",
            ".......");
        same("30 block", row.thin(), 15 - row.heap(0));
        same("30 again", row.thin(), 0);
        StraightSteps ring = Checks.heap(
            "#####",
            "#####",
            "##.##",
            "#####",
            "#####");
        Checks.holds("30 ring takes", ring.thin() > 0);
        same("30 ring keeps its hole", ring.heap(2), 1);
        same("30 ring is one part", ring.heap(1), 1);
        same("30 ring, no more", ring.thinning(), 0);
    }
}
