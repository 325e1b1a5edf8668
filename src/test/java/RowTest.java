/** Promises 1 to 13: the row. */
public final class RowTest {
    private static final int UNKNOWN = -1001, BAD = -1002, STATE = -1003, FULL = -1004, NONE = -999;
    private static final int LEAST = Integer.MIN_VALUE, MOST = Integer.MAX_VALUE;

    private RowTest() {
    }

    public static void main(String[] args) {
        newObject();
        step();
        back();
        way();
        place();
        draw();
        drawRefused();
        word();
        straight();
        span();
        spanRefused();
        plain();
        longest();
        pieces();
        pieceEnd();
        Checks.end("RowTest");
    }

    private static void same(String what, long got, long want) {
        Checks.same(what, got, want);
    }

    private static void newObject() {
        StraightSteps x = new StraightSteps();
        same("1 steps", x.count(0), 0);
        same("1 W", x.count(1), 8);
        same("1 H", x.count(2), 8);
        same("1 even steps", x.count(3), 0);
        same("1 edge", x.count(4), 0);
        same("1 fields", x.heap(0), 0);
        for (int f = 0; f < 64; f++) {
            same("1 has " + f, x.has(f), 0);
        }
        same("1 has 64", x.has(64), UNKNOWN);
        same("1 place 0", x.place(0, false), 0);
        same("1 place 0 y", x.place(0, true), 0);
        same("1 place 1", x.place(1, false), UNKNOWN);
        same("1 way 0", x.way(0), UNKNOWN);
    }

    private static void step() {
        int[] xs = {1, 2, 2, 1, 0, -1, -1, 0};
        int[] ys = {0, 1, 2, 3, 3, 2, 1, 0};
        StraightSteps x = new StraightSteps();
        for (int w = 0; w < 8; w++) {
            same("2 step " + w, x.step(w), w + 1);
            same("2 x behind " + w, x.place(w + 1, false), xs[w]);
            same("2 y behind " + w, x.place(w + 1, true), ys[w]);
        }
        for (int w : new int[] {-1, 8, LEAST, MOST}) {
            same("2 step " + w, x.step(w), BAD);
        }
        same("2 steps", x.count(0), 8);
        for (int n = 9; n <= 60; n++) {
            same("2 step", x.step(3), n);
        }
        same("2 full", x.step(3), FULL);
        same("2 full and bad", x.step(8), BAD);
        same("2 steps at most", x.count(0), 60);
        same("2 place 60", x.place(60, false), -52);
        same("2 place 61", x.place(61, false), UNKNOWN);
        same("2 a second object", new StraightSteps().step(7), 1);
    }

    private static void back() {
        StraightSteps x = Checks.row("0123");
        for (int n : new int[] {0, -1, 61, LEAST, MOST}) {
            same("3 back " + n, x.back(n), BAD);
        }
        same("3 too many", x.back(5), STATE);
        same("3 far too many", x.back(60), STATE);
        same("3 steps stay", x.count(0), 4);
        same("3 back 2", x.back(2), 2);
        same("3 way 1", x.way(1), 1);
        same("3 way 2", x.way(2), UNKNOWN);
        same("3 place 3", x.place(3, true), UNKNOWN);
        same("3 step", x.step(6), 3);
        same("3 x", x.place(3, false), 2);
        same("3 y", x.place(3, true), 0);
        same("3 all", x.back(3), 0);
        same("3 none left", x.back(1), STATE);
        same("3 none left, bad", x.back(61), BAD);
        same("3 draw", x.draw(60, 0), 60);
        same("3 back 60", x.back(60), 0);
    }

    private static void way() {
        StraightSteps x = Checks.row("70654");
        int[] ways = {7, 0, 6, 5, 4};
        for (int i = 0; i < 5; i++) {
            same("4 way " + i, x.way(i), ways[i]);
        }
        for (int i : new int[] {5, 60, -1, LEAST, MOST}) {
            same("4 way " + i, x.way(i), UNKNOWN);
        }
    }

    private static void place() {
        StraightSteps x = Checks.row("776");
        same("5 x 0", x.place(0, false), 0);
        same("5 x 2", x.place(2, false), 2);
        same("5 y 2", x.place(2, true), -2);
        same("5 x 3", x.place(3, false), 2);
        same("5 y 3", x.place(3, true), -3);
        for (int i : new int[] {4, 61, -1, LEAST, MOST}) {
            same("5 x " + i, x.place(i, false), UNKNOWN);
            same("5 y " + i, x.place(i, true), UNKNOWN);
        }
    }

    private static void drawn(int u, int v, String ways) {
        StraightSteps x = Checks.row("3");
        same("6 draw " + u + ", " + v, x.draw(u, v), ways.length() + 1);
        for (int i = 0; i < ways.length(); i++) {
            same("6 draw " + u + ", " + v + ", way " + i, x.way(i + 1), ways.charAt(i) - '0');
        }
        same("6 x of " + u + ", " + v, x.place(ways.length() + 1, false), u - 1);
        same("6 y of " + u + ", " + v, x.place(ways.length() + 1, true), v + 1);
    }

    private static void draw() {
        drawn(1, 0, "0");
        drawn(1, 1, "1");
        drawn(0, 1, "2");
        drawn(-1, 1, "3");
        drawn(-1, 0, "4");
        drawn(-1, -1, "5");
        drawn(0, -1, "6");
        drawn(1, -1, "7");
        drawn(2, 1, "10");
        drawn(2, -1, "07");
        drawn(-2, 1, "34");
        drawn(-2, -1, "45");
        drawn(1, 2, "12");
        drawn(-1, 2, "23");
        drawn(1, -2, "76");
        drawn(-1, -2, "65");
        drawn(4, 2, "1010");
        drawn(7, 3, "0101010");
        drawn(3, 3, "111");
        drawn(0, -3, "666");
    }

    private static void drawRefused() {
        StraightSteps x = new StraightSteps();
        same("6 draw 0, 0", x.draw(0, 0), BAD);
        for (int n : new int[] {61, -61, LEAST, MOST}) {
            same("6 draw " + n + ", 0", x.draw(n, 0), BAD);
            same("6 draw 0, " + n, x.draw(0, n), BAD);
            same("6 draw " + n + ", " + n, x.draw(n, n), BAD);
        }
        same("6 steps", x.count(0), 0);
        same("6 draw 60, -60", x.draw(60, -60), 60);
        same("6 y", x.place(60, true), -60);
        same("6 full", x.draw(0, 1), FULL);
        same("6 full, bad", x.draw(0, 0), BAD);
        same("6 full, bad 61", x.draw(61, 1), BAD);
        same("6 back", x.back(3), 57);
        same("6 one too many", x.draw(-1, 4), FULL);
        same("6 still", x.count(0), 57);
        same("6 just so many", x.draw(-1, 3), 60);
        same("6 draw -60, 60", new StraightSteps().draw(-60, 60), 60);
    }

    private static void worded(int p, int q, String letters) {
        StraightSteps x = new StraightSteps();
        for (int i = 0; i < p; i++) {
            same("7 word " + p + ", " + q + ", " + i, x.word(p, q, i), letters.charAt(i) - '0');
        }
        same("7 word behind", x.word(p, q, p), BAD);
        same("7 word before", x.word(p, q, -1), BAD);
    }

    private static void word() {
        worded(1, 0, "0");
        worded(1, 1, "1");
        worded(2, 1, "01");
        worded(5, 2, "00101");
        worded(5, 3, "01011");
        worded(6, 4, "011011");
        worded(3, 0, "000");
        worded(3, 3, "111");
        worded(60, 1, "0".repeat(59) + "1");
        worded(60, 59, "0" + "1".repeat(59));
        StraightSteps x = new StraightSteps();
        same("7 p 0", x.word(0, 0, 0), BAD);
        same("7 p -1", x.word(-1, 0, 0), BAD);
        same("7 p 61", x.word(61, 1, 0), BAD);
        same("7 p most", x.word(MOST, MOST, MOST - 1), BAD);
        same("7 p least", x.word(LEAST, LEAST, LEAST), BAD);
        same("7 q -1", x.word(5, -1, 0), BAD);
        same("7 q 6", x.word(5, 6, 0), BAD);
        same("7 i most", x.word(5, 2, MOST), BAD);
    }

    private static void straightIs(String ways, int so) {
        StraightSteps x = Checks.row(ways);
        same("8 straight " + ways, x.straight(0, ways.length()), so);
    }

    private static void straight() {
        for (String ways : new String[] {"", "0", "5", "000", "777", "01", "70", "07", "67", "0010", "0101",
            "1101", "11011", "00100", "0010010", "0010001", "010001", "0100100010", "34434", "7070070"}) {
            straightIs(ways, 1);
        }
        for (String ways : new String[] {"02", "13", "04", "15", "71", "60", "012", "701", "0011", "1100", "00101101",
            "1000101", "11000", "0110100", "10101001001"}) {
            straightIs(ways, 0);
        }
        straightIs("0".repeat(60), 1);
        straightIs("0".repeat(29) + "1" + "0".repeat(30), 1);
        straightIs("1" + "0".repeat(28) + "1" + "0".repeat(30), 0);
        StraightSteps x = Checks.row("0246");
        same("8 one step", x.straight(2, 3), 1);
        same("8 no step at the end", x.straight(4, 4), 1);
        same("8 behind", x.straight(0, 5), UNKNOWN);
        same("8 both behind", x.straight(6, 5), UNKNOWN);
        same("8 before", x.straight(-1, 2), UNKNOWN);
        same("8 to before", x.straight(2, -1), UNKNOWN);
        same("8 from behind", x.straight(5, 2), UNKNOWN);
        same("8 wrong way round", x.straight(3, 2), BAD);
        same("8 far", x.straight(LEAST, MOST), UNKNOWN);
    }

    private static void spans(String ways, int lowAbove, int lowBelow, int highAbove, int highBelow) {
        StraightSteps x = Checks.row(ways);
        int to = ways.length();
        same("9 low above of " + ways, x.span(0, to, false, true), lowAbove);
        same("9 low below of " + ways, x.span(0, to, false, false), lowBelow);
        same("9 high above of " + ways, x.span(0, to, true, true), highAbove);
        same("9 high below of " + ways, x.span(0, to, true, false), highBelow);
    }

    private static void span() {
        spans("", -1, 1, 2, 1);
        spans("0", -1, 1, 1, 1);
        spans("1", 0, 1, 2, 1);
        spans("000", -1, 3, 1, 3);
        spans("111", 2, 3, 4, 3);
        spans("01", 0, 1, 1, 1);
        spans("70", 0, 1, 1, 1);
        spans("0101", 1, 3, 2, 3);
        spans("0011", 1, 2, 1, 2);
        spans("00111", 2, 3, 1, 2);
        spans("6".repeat(60), -1, 60, 1, 60);
        spans("3".repeat(60), 59, 60, 61, 60);
        StraightSteps x = Checks.row("2010");
        same("9 from 1", x.span(1, 4, false, false), 1);
        same("9 from 1, high", x.span(1, 4, true, false), 3);
        same("9 from 1, high above", x.span(1, 4, true, true), 2);
    }

    private static void spanRefused() {
        StraightSteps x = Checks.row("02");
        same("9 ways", x.span(0, 2, false, true), STATE);
        same("9 ways, high", x.span(0, 2, true, false), STATE);
        same("9 unknown", x.span(0, 3, false, true), UNKNOWN);
        same("9 unknown from", x.span(-1, 2, false, true), UNKNOWN);
        same("9 unknown to", x.span(1, -1, true, true), UNKNOWN);
        same("9 bad", x.span(1, 0, false, true), BAD);
        same("9 bad, not state", x.span(2, 0, false, true), BAD);
        same("9 far", x.span(MOST, LEAST, true, true), UNKNOWN);
    }

    private static void plainIs(String ways, int above, int below) {
        StraightSteps x = Checks.row(ways);
        same("10 above of " + ways, x.plain(0, ways.length(), true), above);
        same("10 below of " + ways, x.plain(0, ways.length(), false), below);
    }

    private static void plain() {
        plainIs("", 0, 1);
        plainIs("0", 0, 1);
        plainIs("1", 1, 1);
        plainIs("01", 1, 2);
        plainIs("000", 0, 1);
        plainIs("333", 1, 1);
        plainIs("0101", 1, 2);
        plainIs("00101", 2, 5);
        plainIs("11011", 2, 3);
        plainIs("0100", 1, 3);
        StraightSteps x = Checks.row("00112");
        same("10 not straight", x.plain(0, 4, true), STATE);
        same("10 not straight, below", x.plain(0, 4, false), STATE);
        same("10 ways 1 and 2", x.plain(2, 5, true), 2);
        same("10 ways not so", x.plain(1, 5, true), STATE);
        same("10 unknown", x.plain(0, 6, true), UNKNOWN);
        same("10 unknown from", x.plain(-1, 0, true), UNKNOWN);
        same("10 unknown to", x.plain(0, LEAST, true), UNKNOWN);
        same("10 bad", x.plain(4, 0, true), BAD);
    }

    private static void longest() {
        StraightSteps x = new StraightSteps();
        same("11 none", x.longest(false), 0);
        same("11 none, begin", x.longest(true), 0);
        longestIs("4", 1, 0);
        longestIs("0246", 1, 0);
        longestIs("01402", 2, 0);
        longestIs("0222402", 3, 1);
        longestIs("001100", 4, 1);
        longestIs("0042224004", 3, 3);
        longestIs("1".repeat(60), 60, 0);
        longestIs("04" + "10".repeat(29), 58, 2);
    }

    private static void longestIs(String ways, int length, int begin) {
        StraightSteps x = Checks.row(ways);
        same("11 longest of " + ways, x.longest(false), length);
        same("11 begin of " + ways, x.longest(true), begin);
    }

    private static void pieces() {
        same("12 none", new StraightSteps().pieces(), 0);
        same("12 one", Checks.row("5").pieces(), 1);
        same("12 straight", Checks.row("0010010").pieces(), 1);
        same("12 each alone", Checks.row("02".repeat(30)).pieces(), 60);
        same("12 square", Checks.row("00224466").pieces(), 4);
        same("12 two", Checks.row("0011").pieces(), 2);
    }

    private static void ends(String ways, int... ends) {
        StraightSteps x = Checks.row(ways);
        same("13 pieces of " + ways, x.pieces(), ends.length);
        for (int i = 0; i < ends.length; i++) {
            same("13 end " + i + " of " + ways, x.pieceEnd(i), ends[i]);
        }
        for (int i : new int[] {ends.length, 60, 61, -1, LEAST, MOST}) {
            same("13 end " + i + " of " + ways, x.pieceEnd(i), NONE);
        }
    }

    private static void pieceEnd() {
        ends("");
        ends("5", 1);
        ends("0011", 3, 4);
        ends("00224466", 2, 4, 6, 8);
        ends("0044004", 2, 4, 6, 7);
        ends("00112", 3, 5);
        ends("1".repeat(60), 60);
        ends("02".repeat(3), 1, 2, 3, 4, 5, 6);
    }
}
