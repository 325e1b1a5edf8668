/** Promises 24 to 30 and parts 3 and 4 of the terms, sentence by sentence at their boundaries. */
final class DeepEdges {
    private static final int UNKNOWN = -1001, NONE = -999;
    private static final int LEAST = Integer.MIN_VALUE, MOST = Integer.MAX_VALUE;

    private DeepEdges() {
    }

    static void all() {
        deep();
        ballsAreWithin();
        deepest();
        needed();
        neededByRoots();
        balls();
        loose();
        looseAtLeastOne();
        thinning();
        thinningInTurn();
        thin();
    }

    private static void due(String call, long got, long want) {
        Sentences.due(call, got, want);
    }

    private static void deep() {
        Sentences.promise(24, "DEEP. UNKNOWN.");
        StraightSteps x = Checks.heap("###", "###", "##.");
        int[] due = {1, 1, 0, 1, 2, 1, 1, 1, 1};
        for (int f = 0; f < 9; f++) {
            due("deep(" + f + ")", x.deep(f), due[f]);
        }
        for (int f : new int[] {9, 63, -1, LEAST, MOST}) {
            due("deep(" + f + ")", x.deep(f), UNKNOWN);
        }
        Sentences.terms("DEEP of a FIELD of THE HEAP: the least square of the way between its middle and that of a"
            + " FIELD that is not of it, those one beyond the edge too (and 0, if it is not of it).");
        due("no heap", new StraightSteps().deep(0), 0);
        due("not of it", Checks.heap("#.").deep(1), 0);
        due("the only FIELD", Checks.heap("#").deep(0), 1);
        due("in a line that is the ground", Checks.allOf(12, 1).deep(5), 1);
        due("in a column that is the ground", Checks.allOf(1, 12).deep(5), 1);
        StraightSteps all = Checks.allOf(12, 12);
        for (int d = 0; d < 12; d++) {
            int way = Math.min(d + 1, 12 - d);
            due("along the diagonal", all.deep(13 * d), (long) way * way);
            due("along the other diagonal", all.deep(11 + 11 * d), (long) way * way);
        }
        due("set(91) leaves", all.set(91, false), 1);
        due("across a corner", all.deep(78), 2);
        due("across two corners", all.deep(65), 8);
        due("one and two", all.deep(66), 5);
        due("the edge is nearer", all.deep(13), 4);
        due("the edge is as near as it was", all.deep(26), 9);
        due("a far one", all.deep(39), 16);
        due("none of it", all.deep(91), 0);
    }

    private static void ballsAreWithin() {
        Sentences.terms("A BALL of it: FIELDS to whose middles the square of the way is below DEEP. (They are all of"
            + " THE HEAP.)");
        withinHeap(Checks.allOf(12, 12));
        withinHeap(Checks.heap("#####", "#####", "#####", "####."));
        withinHeap(Checks.heap("#######", "#######", "###.###", "#######", "#######", "######."));
    }

    private static void withinHeap(StraightSteps x) {
        int w = x.count(1);
        int h = x.count(2);
        boolean[] has = new boolean[w * h];
        for (int f = 0; f < w * h; f++) {
            has[f] = x.has(f) == 1;
        }
        for (int f = 0; f < w * h; f++) {
            int deep = x.deep(f);
            boolean reached = false;
            for (int at = 0; at < (w + 2) * (h + 2); at++) {
                int px = at % (w + 2) - 1;
                int py = at / (w + 2) - 1;
                boolean in = px >= 0 && px < w && py >= 0 && py < h && has[py * w + px];
                int square = (px - f % w) * (px - f % w) + (py - f / w) * (py - f / w);
                Sentences.dueSo("FIELD " + at + " about " + f, in || square >= deep);
                reached |= !in && square == deep;
            }
            Sentences.dueSo("one that is not of it lies just so far from " + f, reached);
        }
    }

    private static void deepest() {
        Sentences.promise(25, "The greatest DEEP (field = false), the first FIELD with it (NONE: no FIELDS).");
        StraightSteps x = new StraightSteps();
        due("deepest(true) without FIELDS", x.deepest(true), NONE);
        due("deepest(false) without FIELDS", x.deepest(false), 0);
        due("set(63)", x.set(63, true), 0);
        due("deepest(true) of the last", x.deepest(true), 63);
        due("deepest(false) of the last", x.deepest(false), 1);
        due("set(0)", x.set(0, true), 0);
        due("of like ones the first", x.deepest(true), 0);
        due("leaves", x.set(0, false), 1);
        due("leaves", x.set(63, false), 1);
        due("deepest(true) without FIELDS again", x.deepest(true), NONE);
        due("all: the first of four", Checks.allOf(12, 12).deepest(true), 65);
        due("all", Checks.allOf(12, 12).deepest(false), 36);
        due("all of 11 by 11", Checks.allOf(11, 11).deepest(true), 60);
        due("not the first of the heap", Checks.heap("###", "###", "###", "#..").deepest(true), 7);
        due("the only FIELD", Checks.heap("#").deepest(true), 0);
    }

    private static void needed() {
        Sentences.promise(26, "Whether a FIELD is NEEDED: 1, 0. UNKNOWN.");
        StraightSteps x = Checks.heap("###.", "###.", "###.");
        int[] due = {1, 0, 1, 0, 0, 1, 0, 0, 1, 0, 1, 0};
        for (int f = 0; f < 12; f++) {
            due("needed(" + f + ")", x.needed(f), due[f]);
        }
        for (int f : new int[] {12, 63, -1, LEAST, MOST}) {
            due("needed(" + f + ")", x.needed(f), UNKNOWN);
        }
        due("no heap", new StraightSteps().needed(0), 0);
        due("the only FIELD", Checks.heap("#").needed(0), 1);
    }

    /** From full 12 by 12 FIELD 91 is gone: at 78 the roots of 8 and 2 just meet, at 66 no ball reaches. */
    private static void neededByRoots() {
        Sentences.terms("there is no other FIELD of it so that the root of its DEEP is the way between the two, and"
            + " the root of this DEEP, at least.");
        StraightSteps x = Checks.allOf(12, 12);
        due("set(91) leaves", x.set(91, false), 1);
        due("the root of 8 is the root of 2 twice", x.needed(78), 0);
        due("2 is 1 and 1", x.needed(79), 0);
        due("4 is less than the root of 5 twice", x.needed(66), 1);
        due("not of it", x.needed(91), 0);
        due("of like ones beside one another both", Checks.allOf(2, 1).balls(), 2);
        due("it does not hold itself", Checks.allOf(3, 3).needed(4), 1);
        due("a corner of 3 by 3: 2 is less than 1 and the root of 2", Checks.allOf(3, 3).needed(0), 1);
    }

    private static void balls() {
        Sentences.promise(27, "How many FIELDS are NEEDED.");
        due("none", new StraightSteps().balls(), 0);
        due("the only FIELD", Checks.heap("#").balls(), 1);
        due("a line", Checks.allOf(12, 1).balls(), 12);
        due("two lines", Checks.allOf(12, 2).balls(), 24);
        due("both diagonals of 12 by 12", Checks.allOf(12, 12).balls(), 24);
        due("both diagonals of 9 by 9", Checks.allOf(9, 9).balls(), 17);
        due("3 by 3", Checks.allOf(3, 3).balls(), 5);
    }

    private static void loose() {
        Sentences.promise(28, "Whether a FIELD is LOOSE: 1, 0 (not of THE HEAP: 0). UNKNOWN.");
        StraightSteps x = Checks.heap("#..", "##.");
        int[] due = {1, 1, 0, 1, 0, 0};
        for (int f = 0; f < 6; f++) {
            due("loose(" + f + ")", x.loose(f), due[f]);
        }
        for (int f : new int[] {6, 63, -1, LEAST, MOST}) {
            due("loose(" + f + ")", x.loose(f), UNKNOWN);
        }
        due("no heap", new StraightSteps().loose(63), 0);
        due("not of it, with all about it", Checks.heap("###", "#.#", "###").loose(4), 0);
        due("not of it, with one about it", Checks.heap("#..", "...", "...").loose(4), 0);
        Sentences.terms("of the eight about it (those beyond the edge are not of it) those of THE HEAP hang together"
            + " about one another");
        due("a corner of all", Checks.allOf(12, 12).loose(0), 1);
        due("the last corner of all", Checks.allOf(12, 12).loose(143), 1);
        due("a side of all", Checks.allOf(12, 12).loose(5), 1);
        due("within a line that is the ground", Checks.allOf(3, 1).loose(1), 0);
        due("the end of a line that is the ground", Checks.allOf(3, 1).loose(2), 1);
        due("within a column that is the ground", Checks.allOf(1, 3).loose(1), 0);
        due("both ends of lines that follow are not about", Checks.heap("#..", "..#").loose(2), 0);
        due("of two by two", Checks.allOf(2, 2).loose(3), 1);
    }

    private static void looseAtLeastOne() {
        Sentences.terms("at least one, and those that are not of it and hang together beside by beside with one that"
            + " is beside it, within the eight, are of one such part, at least one.");
        middle(0, "...", ".#.", "...");
        middle(1, "..#", ".#.", "...");
        middle(1, "...", "##.", "...");
        middle(0, "..#", ".#.", "#..");
        middle(0, "#.#", ".#.", "...");
        middle(0, "...", "###", "...");
        middle(1, ".#.", ".##", "...");
        middle(1, ".##", ".##", "...");
        middle(0, "#..", ".##", "...");
        middle(0, "###", "###", "###");
        middle(0, ".##", "###", "###");
        middle(0, ".#.", "###", ".#.");
        middle(1, ".#.", "###", "...");
        middle(1, "###", "###", "#.#");
        middle(1, "###", "###", "...");
        middle(1, "#.#", "###", "###");
        middle(0, "###", ".#.", "###");
        due("what hangs together only round a ring", Checks.heap("###", "#.#", "###").loose(1), 0);
        due("a corner of the ring", Checks.heap("###", "#.#", "###").loose(0), 1);
        due("what hangs together only outside the eight", Checks.heap(
            "#####",
            "#...#",
            "#####",
            "#...#",
            "#####").loose(12), 0);
    }

    private static void middle(int so, String... lines) {
        due("loose(4) of " + String.join("/", lines), Checks.heap(lines).loose(4), so);
    }

    private static void thinning() {
        Sentences.promise(29, "A THINNING: how many it takes away.");
        thinned(0, new String[] {"..", ".."}, "..", "..");
        thinned(0, new String[] {"#"}, "#");
        Sentences.terms("AN END: just one of the eight is of THE HEAP.");
        thinned(0, new String[] {"##"}, "##");
        thinned(0, new String[] {"#.", ".#"}, "#.", ".#");
        thinned(1, new String[] {"#.", "##"}, "#.", ".#");
        thinned(0, new String[] {"############"}, "############");
        thinned(0, new String[] {"#.#"}, "#.#");
    }

    private static void thinned(int taken, String[] before, String... behind) {
        StraightSteps x = Checks.heap(before);
        due("thinning() of " + String.join("/", before), x.thinning(), taken);
        Checks.pictured("29 behind " + String.join("/", before), x, behind);
    }

    private static void thinningInTurn() {
        Sentences.terms("FIELD by FIELD; who was of THE HEAP with a side free at its beginning, is LOOSE then, and"
            + " no END then, is taken away.");
        thinned(2, new String[] {"##", "##"}, "##", "..");
        thinned(3, new String[] {"###", "###"}, "###", "...");
        thinned(7, new String[] {"###", "###", "###"}, "..#", ".#.", "...");
        thinned(3, new String[] {".#.", "###", ".#."}, ".#.", ".#.", "...");
        thinned(0, new String[] {".#.", "#.#", ".#."}, ".#.", "#.#", ".#.");
        thinned(4, new String[] {"###", "#.#", "###"}, ".#.", "#.#", ".#.");
        StraightSteps all = Checks.allOf(12, 12);
        int taken = all.thinning();
        due("those within stay, so all that went was on the edge", all.heap(0), 144 - taken);
        due("what is left on the edge", all.count(4), 44 - taken);
        Sentences.dueSo("most of the edge went", taken > 22);
    }

    private static void thin() {
        Sentences.promise(30, "THIN: how many are taken away.");
        due("none", new StraightSteps().thin(), 0);
        due("the only FIELD", Checks.heap("#").thin(), 0);
        due("a line", Checks.allOf(12, 1).thin(), 0);
        due("two lines", Checks.allOf(12, 2).thin(), 12);
        due("one alone is taken", Checks.heap("#.", "##").thin(), 1);
        due("3 by 3", Checks.allOf(3, 3).thin(), 7);
        Sentences.terms("THIN: THINNINGS till one takes none.");
        byThinnings(Checks.allOf(12, 12), Checks.allOf(12, 12));
        byThinnings(Checks.allOf(5, 5), Checks.allOf(5, 5));
        byThinnings(Checks.allOf(11, 6), Checks.allOf(11, 6));
        String[] lines = {"#######", "#######", "##.####", "#######", "#####.#", "#######"};
        byThinnings(Checks.heap(lines), Checks.heap(lines));
    }

    private static void byThinnings(StraightSteps atOnce, StraightSteps oneByOne) {
        int sum = 0;
        int turns = 0;
        for (int taken = oneByOne.thinning(); taken > 0; taken = oneByOne.thinning()) {
            sum += taken;
            turns++;
        }
        Sentences.dueSo("more than one thinning, but " + turns, turns > 1);
        due("thin()", atOnce.thin(), sum);
        due("thin() again", atOnce.thin(), 0);
        due("thinning() behind it", atOnce.thinning(), 0);
        for (int f = 0; f < atOnce.count(1) * atOnce.count(2) && f < 120; f++) {
            due("has(" + f + ")", atOnce.has(f), oneByOne.has(f));
        }
    }
}
