/** What the tests share: told answers are compared, and a wrong one ends the test with exit code 1. */
final class Checks {
    private static int made = 0;
    private static int wrong = 0;

    private Checks() {
    }

    static void same(String what, long got, long want) {
        made++;
        if (got != want) {
            wrong++;
            if (wrong <= 40) {
                System.out.println(what + " answered " + got + ", due is " + want);
            }
        }
    }

    static void holds(String what, boolean so) {
        same(what, so ? 1 : 0, 1);
    }

    static boolean anyWrong() {
        return wrong > 0;
    }

    static void end(String test) {
        System.out.println(test + ": " + made + " answers, " + wrong + " not as due");
        if (wrong > 0 || made == 0) {
            System.exit(1);
        }
    }

    /** An object whose row has the ways that the digits tell. */
    static StraightSteps row(String ways) {
        StraightSteps x = new StraightSteps();
        for (int i = 0; i < ways.length(); i++) {
            same("step " + ways.charAt(i), x.step(ways.charAt(i) - '0'), i + 1);
        }
        return x;
    }

    /** An object whose heap is the # of a picture, the highest line first. */
    static StraightSteps heap(String... lines) {
        StraightSteps x = new StraightSteps();
        lay(x, lines);
        return x;
    }

    static void lay(StraightSteps x, String... lines) {
        int h = lines.length;
        int w = lines[0].length();
        same("ground", x.ground(w, h), (long) w * h);
        for (int y = 0; y < h; y++) {
            for (int c = 0; c < w; c++) {
                if (lines[h - 1 - y].charAt(c) == '#') {
                    same("set", x.set(y * w + c, true), 0);
                }
            }
        }
    }

    /** An object whose heap is its whole ground. */
    static StraightSteps allOf(int w, int h) {
        StraightSteps x = new StraightSteps();
        same("ground", x.ground(w, h), (long) w * h);
        for (int f = 0; f < w * h; f++) {
            same("set", x.set(f, true), 0);
        }
        return x;
    }

    /** Compares the whole heap with a picture. */
    static void pictured(String what, StraightSteps x, String... lines) {
        int h = lines.length;
        int w = lines[0].length();
        same(what + ": W", x.count(1), w);
        same(what + ": H", x.count(2), h);
        for (int y = 0; y < h; y++) {
            for (int c = 0; c < w; c++) {
                int want = lines[h - 1 - y].charAt(c) == '#' ? 1 : 0;
                same(what + ": field " + c + ", " + y, x.has(y * w + c), want);
            }
        }
    }
}
