import java.util.List;
import java.util.Random;

/** Many runs of calls by fixed seeds, each answer held against PlainHall's. */
public final class RandomRunTest {
    private static final int RUNS = 1000;
    private static final int CALLS = 300;

    // Makes four lots a round, so that a run comes to 100 of them.
    private static final int[][] FLOOD = {
        {5, 0, 0, 0, 1, 3}, {0, 0, 5, 0, 2, 0}, {0, 0, 7, 0, 5, 0}, {0, 1, 5, 0, 4, 0}, {3, 1, 1, 0, 5, 0},
        {6, 0, 0, 0, 6, 0}, {2, 0, 1, 50, 7, 0}, {8, 5, 0, 0, 8, 0}, {8, 5, 0, 0, 9, 0}, {9, 0, 0, 0, 0, 0}};

    private final Random random;
    private final int seed;
    private final BatchHall hall = new BatchHall();
    private final PlainHall plain = new PlainHall();
    private static final int[] faults = new int[6];
    private static final int[] ends = new int[8];
    private static int full = 0;

    private RandomRunTest(int seed) {
        this.seed = seed;
        this.random = new Random(seed);
    }

    interface Call {
        int ask();
    }

    private static int answer(Call call) {
        try {
            return call.ask();
        } catch (IllegalArgumentException e) {
            return -1001;
        } catch (IllegalStateException e) {
            return -1002;
        }
    }

    private int both(String what, Call one, Call two) {
        int got = answer(one);
        Check.same("seed " + seed + ": " + what, got, answer(two));
        return got;
    }

    private static int bit(boolean yes) {
        return yes ? 1 : 0;
    }

    /** Mostly a number below the limit, now and then one beside it. */
    private int pick(int limit) {
        int dice = random.nextInt(40);
        return dice == 0 ? -1 : dice == 1 ? limit : random.nextInt(limit);
    }

    private void writeRecipe(int recipe) {
        for (int role = 0; role < 3; role++) {
            int r = role;
            int group = random.nextInt(20) == 0 ? 3 : random.nextInt(3);
            both("role", () -> bit(hall.role(recipe, r, group)), () -> bit(plain.role(recipe, r, group)));
        }
        List<int[]> rows = recipe == 0 && seed % 8 == 0
                ? List.of(FLOOD) : new ChartMaker(random).make(random.nextInt(6) == 0 ? 1 : 0);
        for (int[] x : rows) {
            both("step", () -> hall.step(recipe, x[0], x[1], x[2], x[3]),
                    () -> plain.step(recipe, x[0], x[1], x[2], x[3]));
        }
        for (int i = 0; i < rows.size(); i++) {
            int[] x = rows.get(i);
            int at = i;
            both("link", () -> bit(hall.link(recipe, at, x[4], x[5])), () -> bit(plain.link(recipe, at, x[4], x[5])));
        }
        int fault = both("release", () -> hall.release(recipe), () -> plain.release(recipe));
        if (fault >= 0) {
            faults[fault]++;
        }
    }

    private void run() {
        for (int u = 0; u < 6; u++) {
            int unit = u;
            int group = u < 3 ? u : random.nextInt(3);
            both("unit", () -> bit(hall.unit(unit, group)), () -> bit(plain.unit(unit, group)));
        }
        for (int recipe = 0; recipe < 4; recipe++) {
            writeRecipe(recipe);
        }
        compare();
        for (int i = 0; i < CALLS && Check.isAllRight(); i++) {
            act();
            compare();
        }
        full += bit(hall.lots() == 100);
        for (int b = 0; b < 16; b++) {
            int state = hall.batchIs(b, 0);
            if (state >= 0) {
                ends[state]++;
            }
        }
    }

    private void act() {
        int batch = pick(Math.max(1, plain.batches.size()));
        int dice = random.nextInt(100);
        if (dice < 45) {
            both("tick", hall::tick, plain::tick);
        } else if (dice < 58) {
            int recipe = pick(4);
            int size = random.nextInt(20) == 0 ? 1001 : random.nextInt(1001);
            int made = both("batch", () -> hall.batch(recipe, size), () -> plain.batch(recipe, size));
            if (made >= 0 && random.nextInt(2) == 0) {
                both("start", () -> hall.start(made), () -> plain.start(made));
            }
        } else if (dice < 68) {
            both("start", () -> hall.start(batch), () -> plain.start(batch));
        } else if (dice < 84) {
            int name = random.nextInt(3) == 0 ? pick(4) : random.nextInt(2);
            measure(batch, name);
            for (int b = 0; b < plain.batches.size(); b++) {
                if (random.nextInt(2) == 0) {
                    measure(b, name);
                }
            }
        } else {
            actSeldom(batch, dice);
        }
    }

    private void measure(int batch, int name) {
        int value = random.nextInt(4) - 1;
        both("measure", () -> bit(hall.measure(batch, name, value)), () -> bit(plain.measure(batch, name, value)));
    }

    private void actSeldom(int batch, int dice) {
        if (dice < 88) {
            both("hold", () -> { hall.hold(batch); return 0; }, () -> { plain.hold(batch); return 0; });
        } else if (dice < 94) {
            both("restart", () -> hall.restart(batch), () -> plain.restart(batch));
        } else if (dice < 96) {
            both("stop", () -> hall.stop(batch), () -> plain.stop(batch));
        } else if (dice < 97) {
            both("abort", () -> { hall.abort(batch); return 0; }, () -> { plain.abort(batch); return 0; });
        } else if (dice < 99) {
            int unit = pick(6);
            int group = pick(3);
            both("unit", () -> bit(hall.unit(unit, group)), () -> bit(plain.unit(unit, group)));
        } else {
            int recipe = pick(4);
            both("role", () -> bit(hall.role(recipe, 0, 0)), () -> bit(plain.role(recipe, 0, 0)));
            both("release", () -> hall.release(recipe), () -> plain.release(recipe));
        }
    }

    private void compare() {
        for (int b = -1; b <= plain.batches.size(); b++) {
            int batch = b;
            for (int w = -1; w < 6; w++) {
                int what = w;
                both("batchIs " + b + " " + w, () -> hall.batchIs(batch, what), () -> plain.batchIs(batch, what));
                both("token " + b + " " + w, () -> hall.token(batch, what), () -> plain.token(batch, what));
                both("unitOf " + b + " " + w, () -> hall.unitOf(batch, what), () -> plain.unitOf(batch, what));
            }
        }
        for (int u = -1; u < 7; u++) {
            int unit = u;
            for (int w = -1; w < 5; w++) {
                int what = w;
                both("unitIs " + u + " " + w, () -> hall.unitIs(unit, what), () -> plain.unitIs(unit, what));
            }
            for (int i = -1; i <= plain.unitIs(u, 2); i++) {
                int place = i;
                for (int w = -1; w < 3; w++) {
                    int what = w;
                    both("content", () -> hall.content(unit, place, what), () -> plain.content(unit, place, what));
                }
            }
        }
        both("lots", hall::lots, plain::lots);
        compareLots(random.nextInt(10) == 0 ? -1 : Math.max(0, plain.lots() - 3));
    }

    private void compareLots(int first) {
        for (int l = first; l <= plain.lots(); l++) {
            int lot = l;
            for (int w = -1; w < 6; w++) {
                int what = w;
                both("lot " + l + " " + w, () -> hall.lot(lot, what), () -> plain.lot(lot, what));
            }
            for (int i = -1; i <= Math.max(0, plain.lot(l, 3)); i++) {
                int place = i;
                for (int w = -1; w < 3; w++) {
                    int what = w;
                    both("from", () -> hall.from(lot, place, what), () -> plain.from(lot, place, what));
                }
            }
            int place = random.nextInt(6) - 1;
            both("origin", () -> hall.trace(lot, false, place), () -> plain.trace(lot, false, place));
            both("outcome", () -> hall.trace(lot, true, place), () -> plain.trace(lot, true, place));
        }
    }

    public static void main(String[] args) {
        for (int seed = 0; seed < RUNS && Check.isAllRight(); seed++) {
            new RandomRunTest(seed).run();
        }
        System.out.println("releases by fault " + java.util.Arrays.toString(faults)
                + ", batches by state " + java.util.Arrays.toString(ends)
                + ", runs with 100 lots " + full);
        Check.end();
    }
}
