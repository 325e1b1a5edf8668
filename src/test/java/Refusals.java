/** Part 5 of the terms: what is refused, by what of several, and that it changes nothing; nor does asking. */
final class Refusals {
    private static final int UNKNOWN = -1001, BAD = -1002, STATE = -1003, FULL = -1004, NONE = -999;
    private static final int LEAST = Integer.MIN_VALUE, MOST = Integer.MAX_VALUE;

    private Refusals() {
    }

    private interface Call {
        int on(StraightSteps x);
    }

    static void all() {
        constants();
        toldFirst();
        rowCallsChangeNothing();
        heapCallsChangeNothing();
        askingChangesNothing();
    }

    private static void due(String call, long got, long want) {
        Sentences.due(call, got, want);
    }

    private static void constants() {
        Sentences.name("The public face", "public static final int UNKNOWN = -1001, BAD = -1002, STATE = -1003,"
            + " FULL = -1004, NONE = -999;");
        due("UNKNOWN", StraightSteps.UNKNOWN, UNKNOWN);
        due("BAD", StraightSteps.BAD, BAD);
        due("STATE", StraightSteps.STATE, STATE);
        due("FULL", StraightSteps.FULL, FULL);
        due("NONE", StraightSteps.NONE, NONE);
    }

    private static void toldFirst() {
        Sentences.terms("REFUSALS: UNKNOWN (there is no such STEP, PLACE, FIELD), BAD, STATE, FULL. Of several what"
            + " is told first.");
        due("step: BAD ahead of FULL", full().step(8), BAD);
        due("back: BAD ahead of STATE", some().back(61), BAD);
        due("draw: BAD ahead of FULL", full().draw(61, 1), BAD);
        due("draw to 0, 0: BAD ahead of FULL", full().draw(0, 0), BAD);
        due("straight: UNKNOWN ahead of BAD", some().straight(9, 8), UNKNOWN);
        due("straight: UNKNOWN ahead of BAD, to", some().straight(3, -1), UNKNOWN);
        due("span: UNKNOWN ahead of BAD", some().span(9, 1, true, true), UNKNOWN);
        due("span: UNKNOWN ahead of STATE", some().span(0, 9, true, true), UNKNOWN);
        due("span: BAD ahead of STATE", some().span(5, 0, true, true), BAD);
        due("plain: UNKNOWN ahead of BAD", some().plain(9, 1, true), UNKNOWN);
        due("plain: UNKNOWN ahead of STATE", some().plain(0, 9, true), UNKNOWN);
        due("plain: BAD ahead of STATE", some().plain(5, 0, true), BAD);
        due("fill: UNKNOWN ahead of BAD and STATE", some().fill(20, true), UNKNOWN);
        due("fill: BAD ahead of STATE", some().fill(0, true), BAD);
        due("fill: STATE alone", some().fill(1, true), STATE);
        due("disc: BAD, though there is none", some().disc(3), BAD);
        due("part: UNKNOWN, though it is not of the heap", some().part(20), UNKNOWN);
        due("loose: UNKNOWN, though it is not of the heap", some().loose(20), UNKNOWN);
    }

    private static void rowCallsChangeNothing() {
        Sentences.terms("What is refused changes nothing.");
        for (int n : new int[] {-1, 8, LEAST, MOST}) {
            refused("step(" + n + ")", x -> x.step(n), BAD, true, true);
        }
        refused("step(0)", x -> x.step(0), FULL, false, true);
        for (int n : new int[] {0, -1, 61, LEAST, MOST}) {
            refused("back(" + n + ")", x -> x.back(n), BAD, true, true);
        }
        refused("back(6)", x -> x.back(6), STATE, true, false);
        refused("back(60)", x -> x.back(60), STATE, true, false);
        for (int n : new int[] {-61, 61, LEAST, MOST}) {
            refused("draw(" + n + ", 1)", x -> x.draw(n, 1), BAD, true, true);
            refused("draw(1, " + n + ")", x -> x.draw(1, n), BAD, true, true);
        }
        refused("draw(0, 0)", x -> x.draw(0, 0), BAD, true, true);
        refused("draw(1, 1)", x -> x.draw(1, 1), FULL, false, true);
        refused("draw(56, 1)", x -> x.draw(56, 1), FULL, true, true);
        for (int n : new int[] {-1, 61, LEAST, MOST}) {
            refused("way(" + n + ")", x -> x.way(n), UNKNOWN, true, true);
            refused("place(" + n + ", y)", x -> x.place(n, true), UNKNOWN, true, true);
            refused("word(" + n + ", 0, 0)", x -> x.word(n, 0, 0), BAD, true, true);
            refused("straight(0, " + n + ")", x -> x.straight(0, n), UNKNOWN, true, true);
            refused("span(" + n + ", 1)", x -> x.span(n, 1, true, false), UNKNOWN, true, true);
            refused("plain(0, " + n + ")", x -> x.plain(0, n, true), UNKNOWN, true, true);
            refused("pieceEnd(" + n + ")", x -> x.pieceEnd(n), NONE, true, true);
        }
        refused("straight(1, 0)", x -> x.straight(1, 0), BAD, true, true);
        refused("span(1, 0)", x -> x.span(1, 0, false, true), BAD, true, true);
        refused("span(0, 5)", x -> x.span(0, 5, false, true), STATE, true, true);
        refused("plain(1, 0)", x -> x.plain(1, 0, true), BAD, true, true);
        refused("plain(0, 5)", x -> x.plain(0, 5, true), STATE, true, true);
        refused("word(5, 6, 0)", x -> x.word(5, 6, 0), BAD, true, true);
        refused("word(5, 2, 5)", x -> x.word(5, 2, 5), BAD, true, true);
    }

    private static void heapCallsChangeNothing() {
        for (int n : new int[] {0, 13, -1, LEAST, MOST}) {
            refused("ground(" + n + ", 3)", x -> x.ground(n, 3), BAD, true, true);
            refused("ground(3, " + n + ")", x -> x.ground(3, n), BAD, true, true);
        }
        for (int n : new int[] {144, -1, LEAST, MOST}) {
            refused("set(" + n + ", true)", x -> x.set(n, true), UNKNOWN, true, true);
            refused("set(" + n + ", false)", x -> x.set(n, false), UNKNOWN, true, true);
            refused("has(" + n + ")", x -> x.has(n), UNKNOWN, true, true);
            refused("fill(" + n + ", false)", x -> x.fill(n, false), UNKNOWN, true, true);
            refused("part(" + n + ")", x -> x.part(n), UNKNOWN, true, true);
            refused("deep(" + n + ")", x -> x.deep(n), UNKNOWN, true, true);
            refused("needed(" + n + ")", x -> x.needed(n), UNKNOWN, true, true);
            refused("loose(" + n + ")", x -> x.loose(n), UNKNOWN, true, true);
            refused("heap(" + n + ")", x -> x.heap(n), BAD, true, true);
            refused("is(" + n + ")", x -> x.is(n), BAD, true, true);
            refused("disc(" + n + ")", x -> x.disc(n), BAD, true, true);
            refused("count(" + n + ")", x -> x.count(n), BAD, true, true);
            refused("corner(" + n + ")", x -> x.corner(n), NONE, true, true);
        }
        refused("fill(0, false)", x -> x.fill(0, false), BAD, true, true);
        refused("fill(0, true)", x -> x.fill(0, true), BAD, true, true);
        refused("fill(1, true)", x -> x.fill(1, true), STATE, true, false);
        refused("fill(13, true)", x -> x.fill(13, true), STATE, false, true);
    }

    /** Row and heap calls that only ask, in any order, leave what the next ones answer. */
    private static void askingChangesNothing() {
        Call ask = x -> x.way(0) + x.place(1, true) + x.word(7, 3, 2) + x.straight(0, 2) + x.span(1, 2, true, true)
            + x.plain(0, 1, false) + x.longest(true) + x.pieces() + x.pieceEnd(0) + x.has(1) + x.heap(1) + x.heap(2)
            + x.heap(3) + x.heap(4) + x.is(0) + x.is(1) + x.is(2) + x.disc(0) + x.part(1) + x.hull() + x.corner(0)
            + x.deep(1) + x.deepest(true) + x.needed(1) + x.balls() + x.loose(1) + x.count(3) + x.count(4);
        for (StraightSteps[] two : new StraightSteps[][] {{some(), some()}, {full(), full()}}) {
            due("asked again", ask.on(two[0]), ask.on(two[0]));
            sameState("asked", two[0], two[1]);
        }
    }

    private static void refused(String name, Call call, int due, boolean ofSome, boolean ofFull) {
        if (ofSome) {
            leaves(name, call, due, some(), some());
        }
        if (ofFull) {
            leaves(name + " with 60 STEPS", call, due, full(), full());
        }
    }

    private static void leaves(String name, Call call, int due, StraightSteps asked, StraightSteps twin) {
        due(name, call.on(asked), due);
        sameState(name, asked, twin);
    }

    private static void sameState(String name, StraightSteps x, StraightSteps twin) {
        for (int what = 0; what < 5; what++) {
            due("count(" + what + ") behind " + name, x.count(what), twin.count(what));
            due("heap(" + what + ") behind " + name, x.heap(what), twin.heap(what));
        }
        int steps = twin.count(0);
        for (int i = 0; i < steps; i++) {
            due("way(" + i + ") behind " + name, x.way(i), twin.way(i));
        }
        due("last x behind " + name, x.place(steps, false), twin.place(steps, false));
        due("last y behind " + name, x.place(steps, true), twin.place(steps, true));
        due("no further place behind " + name, x.place(steps + 1, true), UNKNOWN);
        int fields = twin.count(1) * twin.count(2);
        for (int f = 0; f < fields; f++) {
            due("has(" + f + ") behind " + name, x.has(f), twin.has(f));
        }
        due("thin() behind " + name, x.thin(), twin.thin());
        due("balls() behind " + name, x.balls(), twin.balls());
    }

    /** Five STEPS that are not of two WAYS, on 5 by 4 FIELDS. */
    private static StraightSteps some() {
        StraightSteps x = Checks.row("02341");
        Checks.lay(x,
            "##..#",
            "###..",
            ".####",
            "##...");
        return x;
    }

    /** 60 STEPS that do not come back, on 12 by 12 FIELDS. */
    private static StraightSteps full() {
        StraightSteps x = Checks.row("02341" + "04".repeat(27) + "0");
        due("ground", x.ground(12, 12), 144);
        for (int f = 0; f < 144; f += f % 3 + 1) {
            due("set", x.set(f, true), 0);
        }
        return x;
    }
}
