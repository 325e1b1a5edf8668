/** Promises 14 to 18, 21 and 31, and of the terms' part 2 what they need, sentence by sentence at their boundaries. */
final class HeapEdges {
    private static final int UNKNOWN = -1001, BAD = -1002, STATE = -1003, NONE = -999;
    private static final int LEAST = Integer.MIN_VALUE, MOST = Integer.MAX_VALUE;

    private HeapEdges() {
    }

    static void all() {
        ground();
        groundRefused();
        set();
        has();
        fillOpen();
        fillBack();
        fillShut();
        fillRefused();
        heap();
        neighbours();
        holes();
        rims();
        part();
        count();
    }

    private static void due(String call, long got, long want) {
        Sentences.due(call, got, want);
    }

    private static void ground() {
        Sentences.promise(14, "THE GROUND anew, no HEAP: how many FIELDS. BAD.");
        StraightSteps x = Checks.row("0");
        due("set(63)", x.set(63, true), 0);
        due("the same size", x.ground(8, 8), 64);
        due("has(63)", x.has(63), 0);
        due("heap(0)", x.heap(0), 0);
        due("the row stays", x.count(0), 1);
        Sentences.terms("THE GROUND: W by H FIELDS (1 .. 12 each; 8 by 8 at first), FIELD y W + x; THE HEAP is a set"
            + " of them (none at first).");
        for (int w : new int[] {1, 2, 11, 12}) {
            for (int h : new int[] {1, 2, 11, 12}) {
                StraightSteps y = new StraightSteps();
                due("ground(" + w + ", " + h + ")", y.ground(w, h), (long) w * h);
                due("W", y.count(1), w);
                due("H", y.count(2), h);
                due("no FIELDS of the heap", y.heap(0), 0);
                due("the last FIELD", y.has(w * h - 1), 0);
                due("behind it", y.has(w * h), UNKNOWN);
            }
        }
        StraightSteps z = Checks.allOf(12, 12);
        due("smaller", z.ground(1, 1), 1);
        due("as large again", z.ground(12, 12), 144);
        due("what was of the heap", z.heap(0), 0);
        StraightSteps last = Checks.heap("..#", "...");
        due("x 2, y 1 of three by two is FIELD 5", last.has(5), 1);
    }

    private static void groundRefused() {
        Sentences.promise(14, "BAD.");
        for (int out : new int[] {0, -1, 13, -12, LEAST, MOST, 1 << 16}) {
            StraightSteps x = Checks.heap("#.#");
            due("ground(" + out + ", 4)", x.ground(out, 4), BAD);
            due("ground(4, " + out + ")", x.ground(4, out), BAD);
            due("ground(" + out + ", " + out + ")", x.ground(out, out), BAD);
            due("W stays", x.count(1), 3);
            due("H stays", x.count(2), 1);
            due("the heap stays", x.heap(0), 2);
        }
    }

    private static void set() {
        Sentences.promise(15, "A FIELD comes to THE HEAP, or leaves it: whether it was of it: 1, 0.");
        StraightSteps x = new StraightSteps();
        for (int f : new int[] {0, 63}) {
            due("not of it, leaves", x.set(f, false), 0);
            due("comes", x.set(f, true), 0);
            due("comes again", x.set(f, true), 1);
            due("once only", x.heap(0), 1);
            due("leaves", x.set(f, false), 1);
            due("is gone", x.set(f, false), 0);
            due("none", x.heap(0), 0);
        }
        Sentences.promise(15, "UNKNOWN.");
        for (int f : new int[] {64, 65, 143, 144, -1, LEAST, MOST}) {
            due("set(" + f + ", true)", x.set(f, true), UNKNOWN);
            due("set(" + f + ", false)", x.set(f, false), UNKNOWN);
        }
        due("nothing came", x.heap(0), 0);
        due("one FIELD", x.ground(1, 1), 1);
        due("set(1, true)", x.set(1, true), UNKNOWN);
        due("set(0, true)", x.set(0, true), 0);
        due("12 by 12", x.ground(12, 12), 144);
        due("set(143, true)", x.set(143, true), 0);
        due("set(144, true)", x.set(144, true), UNKNOWN);
    }

    private static void has() {
        Sentences.promise(16, "Whether a FIELD is of THE HEAP: 1, 0. UNKNOWN.");
        StraightSteps x = Checks.heap("#.", ".#", "#.");
        int[] due = {1, 0, 0, 1, 1, 0};
        for (int f = 0; f < 6; f++) {
            due("has(" + f + ")", x.has(f), due[f]);
        }
        for (int f : new int[] {6, 7, 63, -1, LEAST, MOST}) {
            due("has(" + f + ")", x.has(f), UNKNOWN);
        }
    }

    private static void fillOpen() {
        Sentences.promise(17, "TO FILL, PLACE 0 at a FIELD (shut = false), with those shut in: how many FIELDS are"
            + " of it then.");
        Sentences.terms("TO FILL: all FIELDS whose middles are PLACES of THE ROW, PLACE 0 being at a FIELD, come to"
            + " THE HEAP");
        StraightSteps none = new StraightSteps();
        due("no STEPS: PLACE 0 alone", none.fill(0, false), 1);
        due("another", none.fill(63, false), 2);
        due("the same again", none.fill(63, false), 2);
        due("has(63)", none.has(63), 1);
        StraightSteps x = Checks.row("0246");
        due("2 by 2", x.ground(2, 2), 4);
        due("all of it", x.fill(0, false), 4);
        StraightSteps y = Checks.row("0".repeat(11));
        due("12 by 1", y.ground(12, 1), 12);
        due("from end to end", y.fill(0, false), 12);
        StraightSteps z = Checks.row("04".repeat(30));
        due("60 STEPS on two FIELDS", z.fill(6, false), 2);
        StraightSteps v = Checks.row("0");
        Checks.lay(v, "#..", "..#");
        due("those of before stay", v.fill(0, false), 4);
        due("the row stays", v.count(0), 1);
        StraightSteps anew = new StraightSteps();
        due("fill(0)", anew.fill(0, false), 1);
        due("set(0) leaves", anew.set(0, false), 1);
        due("what an earlier one filled does not come again", anew.fill(63, false), 1);
        due("has(0)", anew.has(0), 0);
    }

    private static void fillBack() {
        Sentences.terms("or those shut in by it too, if THE ROW comes back to PLACE 0");
        due("no STEPS", new StraightSteps().fill(5, true), 1);
        due("there and back", Checks.row("04").fill(9, true), 2);
        due("one STEP too far", Checks.row("044").fill(9, true), STATE);
        due("round, and one STEP too far", Checks.row("02460").fill(9, true), STATE);
        due("back in x alone", Checks.row("024").fill(9, true), STATE);
        due("back in y alone", Checks.row("026").fill(9, true), STATE);
        due("twice", Checks.row("0246" + "0246").fill(9, true), 4);
        StraightSteps x = Checks.row("00224466");
        due("back(1)", x.back(1), 7);
        due("not back any more", x.fill(9, true), STATE);
        due("open it may be filled", x.fill(9, false), 8);
        due("step", x.step(6), 8);
        due("back again", x.fill(9, true), 9);
    }

    private static void fillShut() {
        Sentences.terms("those from which one does not come to the edge, beside by beside, without one of these.");
        StraightSteps ring = Checks.row("00224466");
        due("3 by 3", ring.ground(3, 3), 9);
        due("the middle, though the row is on the edge", ring.fill(0, true), 9);
        StraightSteps rhomb = Checks.row("1357");
        due("3 by 3", rhomb.ground(3, 3), 9);
        due("walls across corners shut, corners of the ground are open", rhomb.fill(1, true), 5);
        Checks.pictured("rhomb", rhomb, ".#.", "###", ".#.");
        StraightSteps edge = Checks.row("15");
        due("2 by 2", edge.ground(2, 2), 4);
        due("FIELDS on the edge come to it", edge.fill(0, true), 2);
        StraightSteps small = Checks.row("0246");
        due("3 by 3", small.ground(3, 3), 9);
        due("nothing within", small.fill(0, true), 4);
        StraightSteps great = Checks.row("0".repeat(11) + "2".repeat(11) + "4".repeat(11) + "6".repeat(11));
        due("12 by 12", great.ground(12, 12), 144);
        due("open", great.fill(0, false), 44);
        due("shut", great.fill(0, true), 144);
        StraightSteps inner = Checks.row("00224466");
        Checks.lay(inner,
            ".....",
            ".....",
            "..#..",
            ".....",
            "#....");
        due("what was of the heap within is no wall, nor counted twice", inner.fill(6, true), 10);
        StraightSteps outer = Checks.row("04");
        Checks.lay(outer,
            "###..",
            "#.#..",
            "###..");
        due("what the heap alone shuts in does not come", outer.fill(3, true), 10);
        due("its middle", outer.has(6), 0);
    }

    private static void fillRefused() {
        Sentences.promise(17, "UNKNOWN; BAD: a PLACE is beyond THE GROUND; STATE: shut, and it does not come back.");
        StraightSteps x = Checks.row("0");
        due("3 by 3", x.ground(3, 3), 9);
        for (int f : new int[] {9, 63, -1, LEAST, MOST}) {
            due("fill(" + f + ", false)", x.fill(f, false), UNKNOWN);
            due("fill(" + f + ", true)", x.fill(f, true), UNKNOWN);
        }
        due("beyond the right edge, not on the next line", x.fill(2, false), BAD);
        due("beyond, shut", x.fill(2, true), BAD);
        due("beyond, last FIELD", x.fill(8, false), BAD);
        due("shut, not back", x.fill(0, true), STATE);
        due("shut, not back, at the edge", x.fill(1, true), STATE);
        due("nothing came", x.heap(0), 0);
        String[] beyond = {"4", "6", "2", "1", "3", "5", "7"};
        int[] from = {8, 7, 56, 63, 56, 0, 7};
        for (int i = 0; i < beyond.length; i++) {
            due("way " + beyond[i] + " from " + from[i], Checks.row(beyond[i]).fill(from[i], false), BAD);
        }
        due("only a PLACE between is beyond", Checks.row("40").fill(0, true), BAD);
        due("only a PLACE between is beyond, open", Checks.row("62").fill(3, false), BAD);
        due("60 STEPS away", Checks.row("2".repeat(60)).fill(0, false), BAD);
        StraightSteps y = Checks.row("0000004");
        due("no FIELD came of a row that leaves", y.fill(3, false), BAD);
        due("none", y.heap(0), 0);
    }

    private static void heap() {
        Sentences.promise(18, "FIELDS (what = 0), PARTS (1), HOLES (2), RIMS (3), LACKS (4). BAD.");
        heapIs("none", new StraightSteps(), 0, 0, 0, 0, 0);
        heapIs("the only FIELD", Checks.heap("#"), 1, 1, 0, 4, 0);
        heapIs("all of 12 by 12", Checks.allOf(12, 12), 144, 1, 0, 48, 0);
        heapIs("all of 12 by 1", Checks.allOf(12, 1), 12, 1, 0, 26, 0);
        heapIs("a ring", Checks.heap("###", "#.#", "###"), 8, 1, 1, 16, 1);
        heapIs("every other of a line", Checks.heap("#.#.#.#.#.#."), 6, 6, 0, 24, 5);
        for (int what : new int[] {-1, 5, 6, LEAST, MOST}) {
            due("heap(" + what + ")", new StraightSteps().heap(what), BAD);
            due("heap(" + what + ") with a heap", Checks.heap("#").heap(what), BAD);
        }
    }

    private static void heapIs(String name, StraightSteps x, int... due) {
        for (int what = 0; what < 5; what++) {
            due(name + ", heap(" + what + ")", x.heap(what), due[what]);
        }
    }

    private static void neighbours() {
        Sentences.terms("Beside one another: with a side in common; about: with a side or a corner.");
        Sentences.terms("PARTS of THE HEAP: FIELDS that hang together by being about one another.");
        due("a corner in common", Checks.heap("#.", ".#").heap(1), 1);
        due("the other corner", Checks.heap(".#", "#.").heap(1), 1);
        due("a side", Checks.heap("##").heap(1), 1);
        due("one FIELD between", Checks.heap("#.#").heap(1), 2);
        due("the end of a line and the begin of the next", Checks.heap("#..", "..#").heap(1), 2);
        due("the end of a line and the begin of the next but one", Checks.heap("#..", "...", "..#").heap(1), 2);
        due("both ends of a line", Checks.heap("#...#").heap(1), 2);
        due("the lowest and the highest line", Checks.heap("#", ".", ".", "#").heap(1), 2);
        due("the most parts", Checks.heap(
            "............",
            "#.#.#.#.#.#.",
            "............",
            "#.#.#.#.#.#.",
            "............",
            "#.#.#.#.#.#.",
            "............",
            "#.#.#.#.#.#.",
            "............",
            "#.#.#.#.#.#.",
            "............",
            "#.#.#.#.#.#.").heap(1), 36);
        due("like a chessboard", Checks.heap("#.#.", ".#.#", "#.#.").heap(1), 1);
    }

    private static void holes() {
        Sentences.terms("from which one does not come to the edge beside by beside through such (those on the edge"
            + " come to it)");
        due("none of the heap", new StraightSteps().heap(2), 0);
        due("all of the heap", Checks.allOf(5, 5).heap(2), 0);
        due("one within", Checks.heap("###", "#.#", "###").heap(2), 1);
        due("shut by corners", Checks.heap(".#.", "#.#", ".#.").heap(2), 1);
        due("on the lowest line", Checks.heap("###", "###", "#.#").heap(2), 0);
        due("on the highest line", Checks.heap("#.#", "###", "###").heap(2), 0);
        due("at the left", Checks.heap("###", ".##", "###").heap(2), 0);
        due("at the right", Checks.heap("###", "##.", "###").heap(2), 0);
        due("at a corner", Checks.heap(".##", "###", "###").heap(2), 0);
        due("a ground of two lines", Checks.heap("####", "#..#").heap(2), 0);
        due("a corner is no way out", Checks.heap("..##", "##.#", "####").heap(2), 1);
        due("a side is a way out", Checks.heap("##.#", "##.#", "####").heap(2), 0);
        StraightSteps closing = Checks.heap(
            "...",
            "...",
            "...",
            "###");
        due("a FIELD within that comes to the edge", closing.heap(2), 0);
        for (int f : new int[] {3, 5, 7}) {
            due("open still", closing.heap(2), 0);
            due("set(" + f + ")", closing.set(f, true), 0);
        }
        due("shut now", closing.heap(2), 1);
        due("set(1) leaves", closing.set(1, false), 1);
        due("open again", closing.heap(2), 0);
        Sentences.terms("so many as hang together beside by beside.");
        due("side by side", Checks.heap("####", "#..#", "####").heap(2), 1);
        due("corner to corner", Checks.heap("####", "##.#", "#.##", "####").heap(2), 2);
        due("a hole about a part with a hole", Checks.heap(
            "#######",
            "#.....#",
            "#.###.#",
            "#.#.#.#",
            "#.###.#",
            "#.....#",
            "#######").heap(2), 2);
        due("the most holes", Checks.heap(
            "############",
            "#.#.#.#.#.##",
            "##.#.#.#.#.#",
            "#.#.#.#.#.##",
            "##.#.#.#.#.#",
            "#.#.#.#.#.##",
            "##.#.#.#.#.#",
            "#.#.#.#.#.##",
            "##.#.#.#.#.#",
            "#.#.#.#.#.##",
            "##.#.#.#.#.#",
            "############").heap(2), 50);
    }

    private static void rims() {
        Sentences.terms("RIMS: sides between a FIELD of it and what is not (beyond the edge: not).");
        due("none", new StraightSteps().heap(3), 0);
        due("one within", Checks.heap("...", ".#.", "...").heap(3), 4);
        due("one at a corner", Checks.heap("...", "...", "#..").heap(3), 4);
        due("all of one", Checks.heap("#").heap(3), 4);
        due("all of 3 by 2", Checks.allOf(3, 2).heap(3), 10);
        due("a side in common is none", Checks.heap("##").heap(3), 6);
        due("a corner in common takes none", Checks.heap("#.", ".#").heap(3), 8);
        due("both ends of lines that follow", Checks.heap("#..", "..#").heap(3), 8);
        due("those of a hole too", Checks.heap("###", "#.#", "###").heap(3), 16);
    }

    private static void part() {
        Sentences.promise(21, "The least FIELD of the PART of a FIELD; NONE: it is not of THE HEAP. UNKNOWN.");
        StraightSteps x = Checks.heap(
            "#...#",
            ".#.#.",
            "#....",
            "...##");
        int[] due = {
            NONE, NONE, NONE, 3, 3,
            5, NONE, NONE, NONE, NONE,
            NONE, 5, NONE, 13, NONE,
            5, NONE, NONE, NONE, 13};
        for (int f = 0; f < 20; f++) {
            due("part(" + f + ")", x.part(f), due[f]);
        }
        for (int f : new int[] {20, 63, -1, LEAST, MOST}) {
            due("part(" + f + ")", x.part(f), UNKNOWN);
        }
        due("no heap", new StraightSteps().part(0), NONE);
        due("no heap, behind", new StraightSteps().part(64), UNKNOWN);
        due("the last of all", Checks.allOf(12, 12).part(143), 0);
        due("alone at the last", Checks.heap("..#", "...").part(5), 5);
        due("the begin of a line is not the end of the one before", Checks.heap("#..", "..#").part(3), 3);
    }

    private static void count() {
        Sentences.promise(31, "0 STEPS, 1 W, 2 H, 3 STEPS of an even WAY, 4 FIELDS on the edge that are of THE HEAP."
            + " BAD.");
        StraightSteps x = new StraightSteps();
        int[] first = {0, 8, 8, 0, 0};
        for (int what = 0; what < 5; what++) {
            due("count(" + what + ") at first", x.count(what), first[what]);
        }
        for (int what : new int[] {-1, 5, 6, LEAST, MOST}) {
            due("count(" + what + ")", x.count(what), BAD);
        }
        for (int way = 0; way < 8; way++) {
            due("even STEPS, 60 of " + way, Checks.row(("" + way).repeat(60)).count(3), way % 2 == 0 ? 60 : 0);
        }
        StraightSteps y = Checks.row("0123");
        due("even STEPS", y.count(3), 2);
        due("back", y.back(2), 2);
        due("even STEPS left", y.count(3), 1);
        due("the only FIELD is on the edge", Checks.heap("#").count(4), 1);
        due("of two lines all", Checks.allOf(12, 2).count(4), 24);
        due("of two columns all", Checks.allOf(2, 12).count(4), 24);
        due("of three by three all but one", Checks.allOf(3, 3).count(4), 8);
        due("of 12 by 12", Checks.allOf(12, 12).count(4), 44);
        due("the one within", Checks.heap("...", ".#.", "...").count(4), 0);
        due("one of each side", Checks.heap("..#.", "#...", "...#", ".#..").count(4), 4);
    }
}
