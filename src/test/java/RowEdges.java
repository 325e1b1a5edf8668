/** Promises 1 to 13 and part 1 of the terms, sentence by sentence at their boundaries. */
final class RowEdges {
    private static final int UNKNOWN = -1001, BAD = -1002, STATE = -1003, FULL = -1004, NONE = -999;
    private static final int LEAST = Integer.MIN_VALUE, MOST = Integer.MAX_VALUE;

    private RowEdges() {
    }

    static void all() {
        lifeOfAnObject();
        newObject();
        waysAndPlaces();
        step();
        back();
        way();
        place();
        drawBounds();
        drawHalves();
        drawFull();
        word();
        piecesOfWays();
        straightOrJustNot();
        straightRefused();
        spanEnds();
        spanRefused();
        fractions();
        plain();
        plainRefused();
        longest();
        pieces();
        pieceEnd();
    }

    private static void due(String call, long got, long want) {
        Sentences.due(call, got, want);
    }

    private static void lifeOfAnObject() {
        Sentences.name("What it is", "An object is used for at most 512 calls after it has been made");
        StraightSteps x = new StraightSteps();
        for (int n = 0; n < 255; n++) {
            due("call " + (2 * n + 1), x.step(n % 8), 1);
            due("call " + (2 * n + 2), x.back(1), 0);
        }
        due("call 511", x.step(3), 1);
        due("call 512", x.way(0), 3);
        StraightSteps y = new StraightSteps();
        due("call 1", y.ground(12, 12), 144);
        for (int f = 0; f < 144; f++) {
            due("call " + (f + 2), y.set(f, true), 0);
        }
        for (int call = 146; call < 512; call++) {
            due("call " + call, y.heap(3), 48);
        }
        due("call 512", y.deepest(false), 36);
        Sentences.name("What it is", "what later calls answer is free");
        for (int call = 513; call <= 2000; call++) {
            Sentences.dueSo("but it ends with an answer", y.thinning() + y.step(call) > LEAST);
        }
    }

    private static void newObject() {
        Sentences.promise(1, "No STEPS");
        StraightSteps x = new StraightSteps();
        due("count(0)", x.count(0), 0);
        due("count(3)", x.count(3), 0);
        due("way(0)", x.way(0), UNKNOWN);
        due("place(0, x)", x.place(0, false), 0);
        due("place(0, y)", x.place(0, true), 0);
        due("place(1, x)", x.place(1, false), UNKNOWN);
        due("back(1)", x.back(1), STATE);
        due("straight(0, 0)", x.straight(0, 0), 1);
        due("straight(0, 1)", x.straight(0, 1), UNKNOWN);
        Sentences.promise(1, "8 by 8 FIELDS");
        due("count(1)", x.count(1), 8);
        due("count(2)", x.count(2), 8);
        due("has(63)", x.has(63), 0);
        due("has(64)", x.has(64), UNKNOWN);
        Sentences.promise(1, "no HEAP");
        for (int f = 0; f < 64; f++) {
            due("has(" + f + ")", x.has(f), 0);
        }
        due("count(4)", x.count(4), 0);
        StraightSteps y = new StraightSteps();
        due("step of another", y.step(0), 1);
        due("set of another", y.set(5, true), 0);
        due("steps of the first", x.count(0), 0);
        due("fields of the first", x.heap(0), 0);
        due("fields of a third", new StraightSteps().heap(0), 0);
    }

    private static void waysAndPlaces() {
        Sentences.terms("0 one to the right, then round against the clock by eighths (1: right and up, 2: up, .. 7:"
            + " right and down)");
        int[] right = {1, 1, 0, -1, -1, -1, 0, 1};
        int[] up = {0, 1, 1, 1, 0, -1, -1, -1};
        for (int way = 0; way < 8; way++) {
            StraightSteps x = new StraightSteps();
            due("step(" + way + ")", x.step(way), 1);
            due("x behind " + way, x.place(1, false), right[way]);
            due("y behind " + way, x.place(1, true), up[way]);
        }
        Sentences.terms("PLACE 0 is 0, 0; each STEP leads to the next one.");
        StraightSteps x = Checks.row("55");
        due("x of PLACE 0", x.place(0, false), 0);
        due("y of PLACE 0", x.place(0, true), 0);
        due("x of PLACE 1", x.place(1, false), -1);
        due("y of PLACE 2", x.place(2, true), -2);
        due("back", x.back(2), 0);
        due("x of PLACE 0 without STEPS", x.place(0, false), 0);
        due("y of PLACE 0 without STEPS", x.place(0, true), 0);
    }

    private static void step() {
        Sentences.promise(2, "A STEP comes behind: how many there are.");
        StraightSteps x = new StraightSteps();
        for (int n = 1; n <= 60; n++) {
            due("step " + n, x.step(n % 8), n);
            due("way of it", x.way(n - 1), n % 8);
        }
        Sentences.promise(2, "BAD: way; FULL.");
        for (int way : new int[] {-1, 8, 9, LEAST, MOST, LEAST + 8, 1 << 30}) {
            StraightSteps y = Checks.row("12");
            due("step(" + way + ")", y.step(way), BAD);
            due("STEPS then", y.count(0), 2);
            due("step(" + way + ") with 60 STEPS", x.step(way), BAD);
        }
        for (int way = 0; way < 8; way++) {
            due("step(" + way + ") with 60 STEPS", x.step(way), FULL);
        }
        Sentences.terms("STEPS 0, 1, .. (60 at most), each a WAY 0 .. 7");
        due("STEPS then", x.count(0), 60);
        due("way(59)", x.way(59), 60 % 8);
        due("way(60)", x.way(60), UNKNOWN);
        due("back(1)", x.back(1), 59);
        due("step into the room that is left", x.step(7), 60);
        due("way(59) now", x.way(59), 7);
        due("step(7)", x.step(7), FULL);
    }

    private static void back() {
        Sentences.promise(3, "The last STEPS are taken back (n of them, 1 .. 60): how many are left.");
        StraightSteps x = full("0");
        due("back(1) of 60", x.back(1), 59);
        due("back(59) of 59", x.back(59), 0);
        due("back(60) of 60", full("3").back(60), 0);
        StraightSteps y = Checks.row("2460");
        due("back(3)", y.back(3), 1);
        due("the first stays", y.way(0), 2);
        due("the second is no more", y.way(1), UNKNOWN);
        due("nor its PLACE", y.place(2, true), UNKNOWN);
        due("step behind it", y.step(1), 2);
        due("x from where it was left", y.place(2, false), 1);
        due("y from where it was left", y.place(2, true), 2);
        Sentences.promise(3, "BAD");
        for (int n : new int[] {0, -1, 61, -60, LEAST, MOST}) {
            due("back(" + n + ") without STEPS", new StraightSteps().back(n), BAD);
            due("back(" + n + ") of 2", Checks.row("00").back(n), BAD);
            due("back(" + n + ") of 60", full("0").back(n), BAD);
        }
        Sentences.promise(3, "STATE: there are not so many.");
        due("back(1) without STEPS", new StraightSteps().back(1), STATE);
        due("back(60) without STEPS", new StraightSteps().back(60), STATE);
        due("back(3) of 2", Checks.row("00").back(3), STATE);
        due("back(2) of 2", Checks.row("00").back(2), 0);
        StraightSteps almost = full("0");
        due("back(1)", almost.back(1), 59);
        due("back(60) of 59", almost.back(60), STATE);
        due("STEPS then", almost.count(0), 59);
    }

    private static void way() {
        Sentences.promise(4, "The WAY of a STEP. UNKNOWN.");
        StraightSteps x = Checks.row("07");
        due("way(0)", x.way(0), 0);
        due("way(1)", x.way(1), 7);
        for (int step : new int[] {2, 59, 60, 61, -1, LEAST, MOST}) {
            due("way(" + step + ") of 2", x.way(step), UNKNOWN);
        }
        due("way(0) without STEPS", new StraightSteps().way(0), UNKNOWN);
        due("way(59) of 60", full("6").way(59), 6);
        due("way(60) of 60", full("6").way(60), UNKNOWN);
    }

    private static void place() {
        Sentences.promise(5, "x of a PLACE (y = false), y. UNKNOWN.");
        StraightSteps x = Checks.row("3");
        due("x", x.place(1, false), -1);
        due("y", x.place(1, true), 1);
        for (int place : new int[] {2, 60, 61, -1, LEAST, MOST}) {
            due("place(" + place + ", x) of 1", x.place(place, false), UNKNOWN);
            due("place(" + place + ", y) of 1", x.place(place, true), UNKNOWN);
        }
        for (int way = 1; way < 8; way += 2) {
            StraightSteps far = full("" + way);
            due("farthest x", far.place(60, false), way == 1 || way == 7 ? 60 : -60);
            due("farthest y", far.place(60, true), way < 4 ? 60 : -60);
            due("behind the farthest", far.place(61, true), UNKNOWN);
        }
    }

    private static void drawBounds() {
        Sentences.terms("TO DRAW to u, v (-60 .. 60 each, not both 0)");
        due("draw(0, 0)", new StraightSteps().draw(0, 0), BAD);
        int[] in = {-60, -1, 0, 1, 60};
        for (int u : in) {
            for (int v : in) {
                int m = Math.max(Math.abs(u), Math.abs(v));
                StraightSteps x = new StraightSteps();
                due("draw(" + u + ", " + v + ")", x.draw(u, v), m == 0 ? BAD : m);
                due("x of " + u + ", " + v, x.place(m, false), u);
                due("y of " + u + ", " + v, x.place(m, true), v);
            }
        }
        Sentences.promise(6, "How many STEPS TO DRAW brings: how many there are then. BAD");
        for (int out : new int[] {-61, 61, LEAST, MOST, LEAST + 1}) {
            for (int other : new int[] {0, 1, -60, 60, out}) {
                StraightSteps x = Checks.row("4");
                due("draw(" + out + ", " + other + ")", x.draw(out, other), BAD);
                due("draw(" + other + ", " + out + ")", x.draw(other, out), BAD);
                due("STEPS then", x.count(0), 1);
            }
        }
        due("behind one STEP", Checks.row("4").draw(-3, 2), 4);
        Sentences.terms("with m the greater size, m STEPS come behind");
        due("draw(3, -5)", new StraightSteps().draw(3, -5), 5);
        due("draw(-5, 3)", new StraightSteps().draw(-5, 3), 5);
        due("draw(4, 4)", new StraightSteps().draw(4, 4), 4);
        due("draw(-1, 0)", new StraightSteps().draw(-1, 0), 1);
    }

    private static void drawHalves() {
        Sentences.terms("each to the nearest whole number, halves up.");
        drawn(2, 1, "10");
        drawn(2, -1, "07");
        drawn(-2, 1, "34");
        drawn(-2, -1, "45");
        drawn(1, 2, "12");
        drawn(-1, 2, "23");
        drawn(1, -2, "76");
        drawn(-1, -2, "65");
        drawn(4, 1, "0100");
        drawn(4, -1, "0070");
        drawn(4, 3, "1101");
        drawn(4, -3, "7077");
        drawn(6, 3, "101010");
        drawn(-6, -3, "454545");
        drawn(60, 30, "10".repeat(30));
        drawn(60, -30, "07".repeat(30));
        drawn(-30, 60, "23".repeat(30));
        drawn(30, -60, "76".repeat(30));
        drawn(60, 1, "0".repeat(29) + "1" + "0".repeat(30));
        drawn(60, -1, "0".repeat(30) + "7" + "0".repeat(29));
        drawn(60, 59, "1".repeat(30) + "0" + "1".repeat(29));
        drawn(60, 60, "1".repeat(60));
        drawn(3, 1, "010");
        drawn(-3, -1, "454");
    }

    private static void drawn(int u, int v, String ways) {
        StraightSteps x = new StraightSteps();
        due("draw(" + u + ", " + v + ")", x.draw(u, v), ways.length());
        for (int i = 0; i < ways.length(); i++) {
            due("draw(" + u + ", " + v + "), way(" + i + ")", x.way(i), ways.charAt(i) - '0');
        }
    }

    private static void drawFull() {
        Sentences.promise(6, "FULL: they would be more than 60.");
        StraightSteps x = full("2");
        due("draw(1, 0) with 60", x.draw(1, 0), FULL);
        due("draw(-60, 60) with 60", x.draw(-60, 60), FULL);
        due("draw(0, 0) with 60", x.draw(0, 0), BAD);
        due("draw(61, 0) with 60", x.draw(61, 0), BAD);
        due("STEPS then", x.count(0), 60);
        due("draw(60, 0) with 1", Checks.row("0").draw(60, 0), FULL);
        StraightSteps y = Checks.row("0");
        due("draw(-7, 60) with 1", y.draw(-7, 60), FULL);
        due("no STEP of it came", y.count(0), 1);
        due("draw(-7, -59) with 1", y.draw(-7, -59), 60);
        due("the last PLACE", y.place(60, true), -59);
    }

    private static void word() {
        Sentences.promise(7, "Letter i of THE WORD. BAD: p, q, i.");
        StraightSteps x = new StraightSteps();
        for (int p : new int[] {0, -1, 61, LEAST, MOST}) {
            due("word(" + p + ", 0, 0)", x.word(p, 0, 0), BAD);
            due("word(" + p + ", " + p + ", 0)", x.word(p, p, 0), BAD);
        }
        for (int q : new int[] {-1, 8, LEAST, MOST}) {
            due("word(7, " + q + ", 0)", x.word(7, q, 0), BAD);
        }
        for (int i : new int[] {-1, 7, 8, LEAST, MOST}) {
            due("word(7, 3, " + i + ")", x.word(7, 3, i), BAD);
        }
        Sentences.terms("THE WORD of p, q (0 <= q <= p, 1 <= p <= 60)");
        due("word(1, 0, 0)", x.word(1, 0, 0), 0);
        due("word(1, 1, 0)", x.word(1, 1, 0), 1);
        due("word(1, 2, 0)", x.word(1, 2, 0), BAD);
        due("word(60, 61, 0)", x.word(60, 61, 0), BAD);
        Sentences.terms("letter i (0 .. p - 1) is 1 if (i + 1) q by p, cut, is above i q by p, cut, else 0.");
        for (int i = 0; i < 60; i++) {
            due("word(60, 0, " + i + ")", x.word(60, 0, i), 0);
            due("word(60, 60, " + i + ")", x.word(60, 60, i), 1);
            due("word(60, 30, " + i + ")", x.word(60, 30, i), i % 2);
            due("word(60, 1, " + i + ")", x.word(60, 1, i), i == 59 ? 1 : 0);
            due("word(60, 59, " + i + ")", x.word(60, 59, i), i == 0 ? 0 : 1);
        }
        due("word(60, 30, 60)", x.word(60, 30, 60), BAD);
    }

    private static void piecesOfWays() {
        Sentences.terms("all its WAYS are of two that follow one another round (or of one; or there are none)");
        for (int a = 0; a < 8; a++) {
            for (int b = 0; b < 8; b++) {
                int apart = Math.floorMod(a - b, 8);
                boolean so = apart == 0 || apart == 1 || apart == 7;
                due("straight of " + a + b, Checks.row("" + a + b).straight(0, 2), so ? 1 : 0);
            }
            String three = "" + a + (a + 1) % 8 + (a + 2) % 8;
            due("straight of " + three, Checks.row(three).straight(0, 3), 0);
            due("its first two", Checks.row(three).straight(0, 2), 1);
            due("its last two", Checks.row(three).straight(1, 3), 1);
            due("60 of one", full("" + a).straight(0, 60), 1);
        }
        due("none, at the end", Checks.row("04").straight(2, 2), 1);
        due("none, between ways that are not so", Checks.row("04").straight(1, 1), 1);
        Sentences.terms("let the even one of the two be ALONG, the odd one ASIDE");
        for (String ways : new String[] {"001", "221", "223", "443", "445", "665", "667", "007"}) {
            spans(ways, 0, 1, 1, 2);
        }
        for (String ways : new String[] {"110", "112", "332", "334", "554", "556", "776", "770"}) {
            spans(ways, 1, 2, 1, 1);
        }
    }

    private static void straightOrJustNot() {
        Sentences.terms("(l - k) S is above R(l) - R(k) - 1, and below R(l) - R(k) + 1");
        Sentences.terms("(It is STRAIGHT, if it has WAYS so, and the first is below the second.)");
        spans("0011", 1, 2, 1, 2);
        due("ends that are alike", Checks.row("0011").straight(0, 4), 0);
        spans("1000101", 1, 3, 1, 3);
        due("ends that are alike, at thirds", Checks.row("1000101").straight(0, 7), 0);
        spans("00111", 2, 3, 1, 2);
        due("the first above the second", Checks.row("00111").straight(0, 5), 0);
        spans("10001001", 1, 4, 1, 3);
        due("the first below the second", Checks.row("10001001").straight(0, 8), 1);
        String longer = "1" + "0".repeat(29) + "1" + "0".repeat(29);
        due("60 STEPS, just so", Checks.row(longer).straight(0, 60), 1);
        String justNot = "1" + "0".repeat(27) + "1" + "0".repeat(29);
        due("58 STEPS, ends that are alike", Checks.row(justNot).straight(0, 58), 0);
        due("without its first STEP", Checks.row(justNot).straight(1, 58), 1);
    }

    private static void straightRefused() {
        Sentences.promise(8, "Whether a PIECE is STRAIGHT: 1, 0. UNKNOWN: a PLACE; BAD: to is below from.");
        StraightSteps x = Checks.row("001");
        due("straight(0, 3)", x.straight(0, 3), 1);
        due("straight(3, 3)", x.straight(3, 3), 1);
        for (int out : new int[] {-1, 4, 60, 61, LEAST, MOST}) {
            for (int other : new int[] {0, 3, out}) {
                due("straight(" + out + ", " + other + ")", x.straight(out, other), UNKNOWN);
                due("straight(" + other + ", " + out + ")", x.straight(other, out), UNKNOWN);
            }
        }
        Sentences.terms("A PIECE: the STEPS from PLACE i to PLACE j (i no more than j).");
        due("straight(3, 2)", x.straight(3, 2), BAD);
        due("straight(3, 0)", x.straight(3, 0), BAD);
        due("straight(1, 0)", x.straight(1, 0), BAD);
        due("straight(60, 59) of 60", full("0").straight(60, 59), BAD);
        due("straight(60, 60) of 60", full("0").straight(60, 60), 1);
        due("straight(0, 61) of 60", full("0").straight(0, 61), UNKNOWN);
    }

    private static void spans(String ways, int lowAbove, int lowBelow, int highAbove, int highBelow) {
        spans(Checks.row(ways), 0, ways.length(), lowAbove, lowBelow, highAbove, highBelow);
    }

    private static void spans(StraightSteps x, int from, int to, int... ends) {
        String piece = "span of " + from + " .. " + to;
        due(piece + ", lower end above", x.span(from, to, false, true), ends[0]);
        due(piece + ", lower end below", x.span(from, to, false, false), ends[1]);
        due(piece + ", upper end above", x.span(from, to, true, true), ends[2]);
        due(piece + ", upper end below", x.span(from, to, true, false), ends[3]);
    }

    private static void spanEnds() {
        Sentences.promise(9, "The lower end of its SPAN (high = false), the upper one.");
        spans("0", -1, 1, 1, 1);
        spans("1", 0, 1, 2, 1);
        spans("01", 0, 1, 1, 1);
        spans("00", -1, 2, 1, 2);
        spans("11", 1, 2, 3, 2);
        spans(full("4"), 0, 60, -1, 60, 1, 60);
        spans(full("5"), 0, 60, 59, 60, 61, 60);
        spans("0".repeat(59) + "1", 0, 1, 1, 59);
        spans("1" + "0".repeat(58) + "1", 1, 60, 1, 58);
        Sentences.terms("(neither belongs to it; -1 and 2, if there are no STEPS)");
        spans(new StraightSteps(), 0, 0, -1, 1, 2, 1);
        spans(Checks.row("0246"), 4, 4, -1, 1, 2, 1);
        spans(Checks.row("0246"), 2, 2, -1, 1, 2, 1);
        due("0 is an end of the span of 1: plain", Checks.row("1").plain(0, 1, true), 1);
        due("0 and 1 are the ends of 01: plain below", Checks.row("01").plain(0, 2, false), 2);
        due("1/2 is an end of 0100: plain below", Checks.row("0100").plain(0, 4, false), 3);
    }

    private static void spanRefused() {
        Sentences.promise(9, "UNKNOWN; BAD; STATE: its WAYS are not so.");
        StraightSteps x = Checks.row("0215");
        for (int out : new int[] {-1, 5, 61, LEAST, MOST}) {
            for (int kind = 0; kind < 4; kind++) {
                boolean high = kind > 1;
                boolean upper = kind % 2 == 1;
                due("span(" + out + ", 0)", x.span(out, 0, high, upper), UNKNOWN);
                due("span(4, " + out + ")", x.span(4, out, high, upper), UNKNOWN);
                due("span(2, 1)", x.span(2, 1, high, upper), BAD);
                due("span(4, 0)", x.span(4, 0, high, upper), BAD);
                due("span(0, 2)", x.span(0, 2, high, upper), STATE);
                due("span(0, 4)", x.span(0, 4, high, upper), STATE);
            }
        }
        due("span(1, 3), its WAYS 2 and 1", x.span(1, 3, true, true), 1);
        due("span(0, 1), one WAY", x.span(0, 1, true, true), 1);
        due("not STRAIGHT, but WAYS so", Checks.row("1100").span(0, 4, true, false), 2);
    }

    private static void fractions() {
        Sentences.terms("FRACTIONS are told above (upper = true), below (1 and more), in least terms.");
        spans("0101", 1, 3, 2, 3);
        spans("010010", 1, 4, 1, 2);
        spans("100100", 1, 4, 2, 5);
        spans("101101", 1, 2, 3, 4);
        spans("0110", 1, 2, 3, 4);
        spans("11011", 3, 5, 1, 1);
        spans("00100100", 1, 4, 3, 8);
        due("0 has 1 below", Checks.row("0010").span(0, 4, false, false), 1);
        due("0 has 1 below, plain", Checks.row("00").plain(0, 2, false), 1);
        due("less than 0 is told above", Checks.row("000").span(0, 3, false, true), -1);
        due("less than 0 has more than 0 below", Checks.row("000").span(0, 3, false, false), 3);
    }

    private static void plain() {
        Sentences.promise(10, "THE PLAIN SLOPE.");
        plainIs("001", 1, 3);
        plainIs("10001001", 2, 7);
        plainIs("0".repeat(59) + "1", 1, 60);
        plainIs("1".repeat(59) + "0", 59, 60);
        plainIs("1" + "0".repeat(58) + "1", 1, 59);
        plainIs("0".repeat(29) + "1" + "0".repeat(30), 1, 31);
        plainIs("10".repeat(30), 1, 2);
        Sentences.terms("of all fractions from 0 to 1 in the SPAN of a STRAIGHT PIECE that of least below, of like"
            + " ones the least.");
        plainIs("", 0, 1);
        plainIs("0", 0, 1);
        plainIs("7", 1, 1);
        plainIs("0".repeat(60), 0, 1);
        plainIs("5".repeat(60), 1, 1);
        plainIs("12", 1, 2);
        due("no STEPS, between two", Checks.row("04").plain(1, 1, true), 0);
    }

    private static void plainIs(String ways, int above, int below) {
        StraightSteps x = Checks.row(ways);
        due("plain above of " + ways, x.plain(0, ways.length(), true), above);
        due("plain below of " + ways, x.plain(0, ways.length(), false), below);
    }

    private static void plainRefused() {
        Sentences.promise(10, "UNKNOWN; BAD; STATE: it is not STRAIGHT.");
        StraightSteps x = Checks.row("00112");
        for (int out : new int[] {-1, 6, 61, LEAST, MOST}) {
            due("plain(" + out + ", 0)", x.plain(out, 0, true), UNKNOWN);
            due("plain(5, " + out + ")", x.plain(5, out, false), UNKNOWN);
        }
        due("plain(1, 0)", x.plain(1, 0, true), BAD);
        due("plain(5, 0)", x.plain(5, 0, false), BAD);
        due("plain(0, 4), WAYS so", x.plain(0, 4, true), STATE);
        due("plain(0, 4), below", x.plain(0, 4, false), STATE);
        due("plain(0, 5), WAYS not so", x.plain(0, 5, true), STATE);
        due("plain(0, 3), one STEP less", x.plain(0, 3, false), 3);
        due("plain(1, 4), one STEP less", x.plain(1, 4, false), 3);
    }

    private static void longest() {
        Sentences.promise(11, "The greatest number of STEPS of a STRAIGHT PIECE (begin = false), the first PLACE"
            + " from which there is one.");
        longestIs("", 0, 0);
        longestIs("6", 1, 0);
        longestIs("04", 1, 0);
        longestIs("0415", 1, 0);
        longestIs("041", 1, 0);
        longestIs("0411", 2, 2);
        longestIs("0011", 3, 0);
        longestIs("00110", 4, 1);
        longestIs("004400", 2, 0);
        longestIs("707", 3, 0);
        longestIs("7001" + "3", 3, 0);
        longestIs("02".repeat(30), 1, 0);
        longestIs("0".repeat(60), 60, 0);
        longestIs("4" + "0".repeat(59), 59, 1);
        longestIs("0".repeat(59) + "4", 59, 0);
        longestIs("0".repeat(30) + "4".repeat(30), 30, 0);
        longestIs("0".repeat(29) + "4".repeat(31), 31, 29);
        StraightSteps x = Checks.row("40000");
        due("back", x.back(4), 1);
        due("what was taken back does not count", x.longest(false), 1);
        due("nor where it was", x.longest(true), 0);
    }

    private static void longestIs(String ways, int length, int begin) {
        StraightSteps x = Checks.row(ways);
        due("longest of " + ways, x.longest(false), length);
        due("its begin of " + ways, x.longest(true), begin);
    }

    private static void pieces() {
        Sentences.promise(12, "How many THE FEWEST PIECES are (0: no STEPS).");
        due("no STEPS", new StraightSteps().pieces(), 0);
        due("one STEP", Checks.row("7").pieces(), 1);
        due("60 STEPS, all of one", full("0").pieces(), 1);
        due("60 STEPS, each apart", Checks.row("04".repeat(30)).pieces(), 60);
        due("round by eighths", Checks.row("01234567").pieces(), 4);
        due("round the end", Checks.row("70").pieces(), 1);
        StraightSteps x = Checks.row("04");
        due("back", x.back(2), 0);
        due("all taken back", x.pieces(), 0);
        Sentences.terms("each as long as can be (the first one, then the next, ..): there are no fewer.");
        ends("0011", 3, 4);
        ends("00110", 3, 5);
        ends("01234567", 2, 4, 6, 8);
        ends("0012", 3, 4);
        ends("0122", 2, 4);
    }

    private static void ends(String ways, int... ends) {
        StraightSteps x = Checks.row(ways);
        due("pieces of " + ways, x.pieces(), ends.length);
        for (int i = 0; i < ends.length; i++) {
            due("pieceEnd(" + i + ") of " + ways, x.pieceEnd(i), ends[i]);
        }
        for (int i : new int[] {ends.length, ends.length + 1, -1, 60, 61, LEAST, MOST}) {
            due("pieceEnd(" + i + ") of " + ways, x.pieceEnd(i), NONE);
        }
    }

    private static void pieceEnd() {
        Sentences.promise(13, "Where the i-th of them ends (0: the first); NONE.");
        ends("");
        ends("3", 1);
        ends("04", 1, 2);
        ends("0".repeat(60), 60);
        ends("0".repeat(59) + "4", 59, 60);
        StraightSteps x = Checks.row("04".repeat(30));
        for (int i = 0; i < 60; i++) {
            due("pieceEnd(" + i + ") of 60", x.pieceEnd(i), i + 1);
        }
        due("pieceEnd(60) of 60", x.pieceEnd(60), NONE);
        due("pieceEnd(-1) of 60", x.pieceEnd(-1), NONE);
    }

    /** A row of 60 steps. */
    private static StraightSteps full(String way) {
        return Checks.row(way.repeat(60));
    }
}
