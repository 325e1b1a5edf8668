import java.util.Random;

/** All promises: long runs of drawn calls, each answer compared with the model's. */
public final class ModelTest {
    private static final int RUNS = 1500;
    private static final int CALLS = 512;

    private final Random dice;
    private final StraightSteps it = new StraightSteps();
    private final Model model = new Model();
    private final String name;
    private int calls = 0;

    private ModelTest(int seed) {
        dice = new Random(seed);
        name = "run " + seed + ", call ";
    }

    public static void main(String[] args) {
        for (int seed = 1; seed <= RUNS && !Checks.anyWrong(); seed++) {
            new ModelTest(seed).run();
        }
        Checks.end("ModelTest");
    }

    private void run() {
        while (calls < CALLS && !Checks.anyWrong()) {
            switch (dice.nextInt(9)) {
                case 0, 1 -> change();
                case 2 -> shape();
                case 3 -> walk();
                case 4, 5 -> askRow();
                default -> askHeap();
            }
        }
    }

    private void same(String call, int got, int want) {
        calls++;
        Checks.same(name + calls + ": " + call, got, want);
    }

    private boolean coin() {
        return dice.nextBoolean();
    }

    /** Mostly what is allowed, at times what lies about it or far off. */
    private int near(int least, int most) {
        int kind = dice.nextInt(60);
        if (kind == 0) return least - 1;
        if (kind == 1) return most + 1;
        if (kind == 2) return coin() ? Integer.MIN_VALUE : Integer.MAX_VALUE;
        if (kind == 3) return coin() ? -dice.nextInt(200) : dice.nextInt(200);
        return most > least ? least + dice.nextInt(most - least + 1) : least;
    }

    private int field() {
        return near(0, model.count(1) * model.count(2) - 1);
    }

    private int place() {
        return near(0, model.count(0));
    }

    private void step(int way) {
        same("step(" + way + ")", it.step(way), model.step(way));
    }

    private void set(int field, boolean is) {
        same("set(" + field + ", " + is + ")", it.set(field, is), model.set(field, is));
    }

    private void ground(int w, int h) {
        same("ground(" + w + ", " + h + ")", it.ground(w, h), model.ground(w, h));
    }

    private void back(int n) {
        same("back(" + n + ")", it.back(n), model.back(n));
    }

    private void draw(int u, int v) {
        same("draw(" + u + ", " + v + ")", it.draw(u, v), model.draw(u, v));
    }

    private void fill(int field, boolean shut) {
        same("fill(" + field + ", " + shut + ")", it.fill(field, shut), model.fill(field, shut));
    }

    private void change() {
        switch (dice.nextInt(8)) {
            case 0 -> step(near(0, 7));
            case 1 -> back(near(1, dice.nextInt(3) == 0 ? 60 : 6));
            case 2 -> draw(near(-60, 60), near(-60, 60));
            case 3 -> draw(near(-9, 9), near(-9, 9));
            case 4 -> set(field(), coin());
            case 5 -> fill(field(), coin());
            case 6 -> same("thinning()", it.thinning(), model.thinning());
            default -> same("thin()", it.thin(), model.thin());
        }
    }

    /** A heap anew: sown thin or thick, a disc, or a block with some fields changed. */
    private void shape() {
        if (dice.nextInt(4) != 0) {
            return;
        }
        if (dice.nextInt(3) == 0) {
            ground(near(1, 12), near(1, 12));
        } else {
            ground(near(1, 7), near(1, 7));
        }
        int w = model.count(1);
        int h = model.count(2);
        int kind = dice.nextInt(3);
        int percent = 5 + dice.nextInt(95);
        int px = dice.nextInt(2 * w - 1);
        int py = dice.nextInt(2 * h - 1);
        int square = dice.nextInt(4 * (w * w + h * h));
        for (int f = 0; f < w * h; f++) {
            int dx = 2 * (f % w) - px;
            int dy = 2 * (f / w) - py;
            boolean in = kind == 0 ? dice.nextInt(100) < percent
                : kind == 1 ? dx * dx + dy * dy <= square
                : dice.nextInt(20) != 0;
            if (in) {
                set(f, true);
            }
        }
    }

    /** A row of one direction, a walk that stays on the ground, or one that comes back, and is filled. */
    private void walk() {
        if (model.count(0) > 0 && coin()) {
            back(1 + dice.nextInt(model.count(0)));
        }
        switch (dice.nextInt(4)) {
            case 0 -> {
                int first = dice.nextInt(8);
                for (int n = dice.nextInt(20); n > 0; n--) step((first + dice.nextInt(2)) % 8);
            }
            case 1 -> draw(1 + dice.nextInt(20), dice.nextInt(20));
            case 2 -> around();
            default -> {
                for (int n = dice.nextInt(6); n > 0; n--) step(dice.nextInt(8));
                fill(field(), coin());
            }
        }
    }

    private void around() {
        if (model.count(0) > 0) {
            back(model.count(0));
        }
        int[] times = new int[8];
        for (int n = 0; n < 4; n++) {
            times[n] = dice.nextInt(4);
            times[n + 4] = times[n];
        }
        for (int way = 0; way < 8; way++) {
            for (int n = 0; n < times[way]; n++) step(way);
        }
        int w = model.count(1);
        for (int tries = 0; tries < 3; tries++) {
            fill(dice.nextInt(w * model.count(2)), true);
        }
        int across = times[3];
        if (across < w) {
            fill(across, coin());
        }
    }

    private void askRow() {
        int from = place();
        int to = coin() ? place() : near(from, from + 6);
        boolean upper = coin();
        boolean high = coin();
        String piece = "(" + from + ", " + to + ", " + high + ", " + upper + ")";
        switch (dice.nextInt(10)) {
            case 0 -> same("way" + piece, it.way(from), model.way(from));
            case 1 -> same("place" + piece, it.place(from, upper), model.place(from, upper));
            case 2 -> askWord();
            case 3 -> same("straight" + piece, it.straight(from, to), model.straight(from, to));
            case 4, 5 -> same("span" + piece, it.span(from, to, high, upper), model.span(from, to, high, upper));
            case 6 -> same("plain" + piece, it.plain(from, to, upper), model.plain(from, to, upper));
            case 7 -> same("longest " + upper, it.longest(upper), model.longest(upper));
            case 8 -> same("pieces", it.pieces(), model.pieces());
            default -> {
                int i = near(0, 8);
                same("pieceEnd " + i, it.pieceEnd(i), model.pieceEnd(i));
            }
        }
    }

    private void askWord() {
        int p = near(1, 60);
        int q = near(0, Math.max(0, Math.min(p, 60)));
        int i = near(0, Math.max(0, Math.min(p, 60)) - 1);
        same("word(" + p + ", " + q + ", " + i + ")", it.word(p, q, i), model.word(p, q, i));
    }

    private void askHeap() {
        int field = field();
        switch (dice.nextInt(13)) {
            case 0 -> same("has " + field, it.has(field), model.has(field));
            case 1, 2 -> {
                int what = near(0, 4);
                same("heap " + what, it.heap(what), model.heap(what));
            }
            case 3 -> {
                int what = near(0, 2);
                same("is " + what, it.is(what), model.is(what));
            }
            case 4 -> {
                int what = near(0, 2);
                same("disc " + what, it.disc(what), model.disc(what));
            }
            case 5 -> same("part " + field, it.part(field), model.part(field));
            case 6 -> same("hull", it.hull(), model.hull());
            case 7 -> {
                int i = near(0, 5);
                same("corner " + i, it.corner(i), model.corner(i));
            }
            case 8 -> same("deep " + field, it.deep(field), model.deep(field));
            case 9 -> askDeep(field);
            case 10 -> same("balls", it.balls(), model.balls());
            case 11 -> same("loose " + field, it.loose(field), model.loose(field));
            default -> {
                int what = near(0, 4);
                same("count " + what, it.count(what), model.count(what));
            }
        }
    }

    private void askDeep(int field) {
        boolean which = coin();
        same("deepest " + which, it.deepest(which), model.deepest(which));
        same("needed " + field, it.needed(field), model.needed(field));
    }
}
