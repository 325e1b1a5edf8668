import java.util.Random;

/** What part 1 of the terms says of rows, held to as it is written: slopes are searched, cuts are all tried. */
final class RowMeanings {
    private RowMeanings() {
    }

    static void all() {
        fromFieldToField();
        slopes();
        spans();
        drawnFarther();
        drawnStraight();
        wordsStraight();
        longestOfAll();
        noFewer();
    }

    private static void due(String call, long got, long want) {
        Sentences.due(call, got, want);
    }

    private static void fromFieldToField() {
        Sentences.name("What it is", "Straight on squares: a row of steps from field to field");
        Sentences.terms("PLACES 0, 1, ..");
        for (int seed = 0; seed < 20; seed++) {
            StraightSteps x = Checks.row(drawnWays(new Random(seed), 60, 8));
            for (int k = 0; k < 60; k++) {
                int dx = Math.abs(x.place(k + 1, false) - x.place(k, false));
                int dy = Math.abs(x.place(k + 1, true) - x.place(k, true));
                due("PLACE " + (k + 1) + " is about PLACE " + k, Math.max(dx, dy), 1);
            }
            due("PLACE 61", x.place(61, false), StraightSteps.UNKNOWN);
        }
    }

    /** All rows of two ways with up to nine steps; a slope between two of nine below has eighteen at most. */
    private static void slopes() {
        Sentences.name("What it is", "whether it is the picture of a straight line");
        Sentences.terms("It is STRAIGHT, if");
        Sentences.terms("and there is a number by which its places lie so");
        Sentences.terms("let R(k) be how many of its first k STEPS are ASIDE");
        Sentences.terms("there is a SLOPE S so that for any two k below l");
        for (int length = 1; length <= 9; length++) {
            for (int bits = 0; bits < 1 << length; bits++) {
                int[] asides = asides(bits, length);
                boolean found = false;
                for (int below = 1; below <= 18 && !found; below++) {
                    for (int above = -below; above <= 2 * below && !found; above++) {
                        found = allLieSo(asides, above, below);
                    }
                }
                StraightSteps x = Checks.row(ways(bits, length));
                due("straight of " + ways(bits, length), x.straight(0, length), found ? 1 : 0);
                if (found) {
                    int above = x.plain(0, length, true);
                    int below = x.plain(0, length, false);
                    Sentences.dueSo("places lie so by the plain slope", allLieSo(asides, above, below));
                }
            }
        }
    }

    private static boolean allLieSo(int[] asides, int above, int below) {
        for (int l = 1; l < asides.length; l++) {
            for (int k = 0; k < l; k++) {
                int aside = asides[l] - asides[k];
                int times = (l - k) * above;
                if (times <= (aside - 1) * below || times >= (aside + 1) * below) {
                    return false;
                }
            }
        }
        return true;
    }

    private static void spans() {
        Sentences.name("What it is", "by which slopes, the plainest one");
        Sentences.terms("ITS SPAN: from the greatest of (R(l) - R(k) - 1) by (l - k), to the least of (R(l) - R(k) + 1)"
            + " by (l - k)");
        Sentences.terms("THE PLAIN SLOPE:");
        for (int length = 1; length <= 9; length++) {
            for (int bits = 0; bits < 1 << length; bits++) {
                endsOfSpan(Checks.row(ways(bits, length)), asides(bits, length));
            }
        }
        Random dice = new Random(5);
        for (int n = 0; n < 200; n++) {
            int length = 20 + dice.nextInt(41);
            int q = dice.nextInt(61);
            StraightSteps x = new StraightSteps();
            int[] asides = new int[length + 1];
            for (int i = 0; i < length; i++) {
                int letter = dice.nextInt(90) == 0 ? dice.nextInt(2) : x.word(60, q, i);
                due("step", x.step(letter), i + 1);
                asides[i + 1] = asides[i] + letter;
            }
            endsOfSpan(x, asides);
        }
    }

    /** The ends are compared as numbers, so that least terms are asked apart. */
    private static void endsOfSpan(StraightSteps x, int[] asides) {
        int length = asides.length - 1;
        int low = x.span(0, length, false, true), lowBelow = x.span(0, length, false, false);
        int high = x.span(0, length, true, true), highBelow = x.span(0, length, true, false);
        boolean lowMet = false;
        boolean highMet = false;
        for (int l = 1; l <= length; l++) {
            for (int k = 0; k < l; k++) {
                int aside = asides[l] - asides[k];
                Sentences.dueSo("none is greater", (aside - 1) * lowBelow <= low * (l - k));
                Sentences.dueSo("none is less", (aside + 1) * highBelow >= high * (l - k));
                lowMet |= (aside - 1) * lowBelow == low * (l - k);
                highMet |= (aside + 1) * highBelow == high * (l - k);
            }
        }
        Sentences.dueSo("one is the low end, one the high end", lowMet && highMet);
        due("straight", x.straight(0, length), low * highBelow < high * lowBelow ? 1 : 0);
        Sentences.dueSo("least terms", inLeastTerms(low, lowBelow) && inLeastTerms(high, highBelow));
    }

    private static boolean inLeastTerms(int above, int below) {
        for (int d = 2; d <= 60; d++) {
            if (above % d == 0 && below % d == 0) {
                return false;
            }
        }
        return below >= 1;
    }

    private static void drawnFarther() {
        Sentences.terms("behind k of them one is u k by m, v k by m farther,");
        for (int u = -60; u <= 60; u += u > -9 && u < 9 ? 1 : 3) {
            for (int v = -60; v <= 60; v += v > -9 && v < 9 ? 1 : 3) {
                int m = Math.max(Math.abs(u), Math.abs(v));
                if (m == 0) {
                    continue;
                }
                int before = Math.min(3, 60 - m);
                StraightSteps x = Checks.row("365".substring(0, before));
                int fromX = x.place(before, false), fromY = x.place(before, true);
                due("draw(" + u + ", " + v + ")", x.draw(u, v), before + m);
                for (int k = 1; k <= m; k++) {
                    nearest("x", x.place(before + k, false) - fromX, u * k, m);
                    nearest("y", x.place(before + k, true) - fromY, v * k, m);
                }
            }
        }
    }

    /** Half a whole above what it should be at most, less than half below: so halves go up. */
    private static void nearest(String what, int got, int above, int below) {
        int twice = 2 * (got * below - above);
        Sentences.dueSo(what + " " + got + " is nearest to " + above + " by " + below,
            twice <= below && twice > -below);
    }

    private static void drawnStraight() {
        Sentences.name("What it is", "straight rows drawn");
        for (int u = -60; u <= 60; u += 4) {
            for (int v = -60; v <= 60; v += 5) {
                int m = Math.max(Math.abs(u), Math.abs(v));
                if (m > 0) {
                    StraightSteps x = new StraightSteps();
                    due("draw", x.draw(u, v), m);
                    due("drawn to " + u + ", " + v, x.straight(0, m), 1);
                    inSpan(x, m, Math.min(Math.abs(u), Math.abs(v)), m);
                }
            }
        }
    }

    private static void wordsStraight() {
        Sentences.name("What it is", "words of a slope");
        for (int p = 1; p <= 60; p++) {
            for (int q = 0; q <= p; q++) {
                StraightSteps x = new StraightSteps();
                int ones = 0;
                for (int i = 0; i < p; i++) {
                    int letter = x.word(p, q, i);
                    ones += letter;
                    due("step", x.step(letter), i + 1);
                }
                due("ones in the word of " + p + ", " + q, ones, q);
                due("a word is straight", x.straight(0, p), 1);
                inSpan(x, p, q, p);
            }
        }
    }

    private static void inSpan(StraightSteps x, int to, int above, int below) {
        int low = x.span(0, to, false, true), lowBelow = x.span(0, to, false, false);
        int high = x.span(0, to, true, true), highBelow = x.span(0, to, true, false);
        Sentences.dueSo(above + " by " + below + " lies in the span",
            low * below < above * lowBelow && above * highBelow < high * below);
    }

    private static void longestOfAll() {
        Sentences.name("What it is", "the longest straight piece");
        for (int seed = 0; seed < 60; seed++) {
            StraightSteps x = Checks.row(drawnWays(new Random(seed), 26, 2 + seed % 3));
            int most = 0;
            int first = 0;
            for (int from = 0; from < 26; from++) {
                for (int to = from; to <= 26; to++) {
                    if (x.straight(from, to) == 1 && to - from > most) {
                        most = to - from;
                        first = from;
                    }
                }
            }
            due("longest", x.longest(false), most);
            due("its begin", x.longest(true), first);
        }
    }

    /** The least number of straight pieces, by trying each last piece at each place. */
    private static void noFewer() {
        Sentences.name("What it is", "the fewest pieces");
        Sentences.terms("THE FEWEST PIECES: STRAIGHT ones one behind the other, each from the PLACE where the last one"
            + " ended, that make THE ROW;");
        for (int seed = 0; seed < 60; seed++) {
            int length = 26;
            StraightSteps x = Checks.row(drawnWays(new Random(seed), length, 2 + seed % 3));
            int[] fewest = new int[length + 1];
            for (int to = 1; to <= length; to++) {
                fewest[to] = length;
                for (int from = 0; from < to; from++) {
                    if (x.straight(from, to) == 1) {
                        fewest[to] = Math.min(fewest[to], fewest[from] + 1);
                    }
                }
            }
            due("pieces", x.pieces(), fewest[length]);
            int at = 0;
            for (int i = 0; i < fewest[length]; i++) {
                int end = x.pieceEnd(i);
                due("straight piece " + i, x.straight(at, end), 1);
                Sentences.dueSo("it can't be longer", end == length || x.straight(at, end + 1) == 0);
                at = end;
            }
            due("they make the row", at, length);
        }
    }

    private static int[] asides(int bits, int length) {
        int[] asides = new int[length + 1];
        for (int i = 0; i < length; i++) {
            asides[i + 1] = asides[i] + (bits >> i & 1);
        }
        return asides;
    }

    private static String ways(int bits, int length) {
        StringBuilder ways = new StringBuilder();
        for (int i = 0; i < length; i++) {
            ways.append(bits >> i & 1);
        }
        return ways.toString();
    }

    private static String drawnWays(Random dice, int length, int kinds) {
        StringBuilder ways = new StringBuilder();
        int first = dice.nextInt(8);
        for (int i = 0; i < length; i++) {
            ways.append((first + dice.nextInt(kinds)) % 8);
        }
        return ways.toString();
    }
}
