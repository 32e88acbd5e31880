import java.util.Arrays;
import java.util.List;
import java.util.Random;

/** Many runs of 512 calls by fixed seeds, as many as are promised, each answer held against PlainHall's. */
public final class RandomRunTest {
    private static final int RUNS = 6000;
    private static final int CALLS = 512;

    // Makes four lots a round, so that a run comes to 100 of them.
    private static final int[][] FLOOD = {
        {5, 0, 0, 0, 1, 3}, {0, 0, 5, 0, 2, 0}, {0, 0, 7, 0, 5, 0}, {0, 1, 5, 0, 4, 0}, {3, 1, 1, 0, 5, 0},
        {6, 0, 0, 0, 6, 0}, {2, 0, 1, 50, 7, 0}, {8, 5, 0, 0, 8, 0}, {8, 5, 0, 0, 9, 0}, {9, 0, 0, 0, 0, 0}};

    private static final int[] faults = new int[6];
    private static final int[] ends = new int[8];
    private static int full = 0;

    private final Random random;
    private final int seed;
    private final boolean floods;
    private final BatchHall hall = new BatchHall();
    private final PlainHall plain = new PlainHall();
    private int calls = 0;

    private RandomRunTest(int seed) {
        this.seed = seed;
        this.random = new Random(seed);
        this.floods = seed % 8 == 0;
    }

    interface Call {
        int ask();
    }

    private static int answer(Call call) {
        try {
            return call.ask();
        } catch (IllegalArgumentException e) {
            return -1001;
        } catch (IllegalStateException e) {
            return -1002;
        }
    }

    /** What comes behind the last call that is promised is not asked; the answer then is PlainHall's alone. */
    private int both(String what, Call one, Call two) {
        int want = answer(two);
        if (calls < CALLS) {
            calls++;
            Check.same("seed " + seed + ", call " + calls + ": " + what, answer(one), want);
        }
        return want;
    }

    private static int bit(boolean yes) {
        return yes ? 1 : 0;
    }

    /** Mostly a number below the limit, now and then one beside it. */
    private int pick(int limit) {
        int dice = random.nextInt(40);
        return dice == 0 ? -1 : dice == 1 ? limit : random.nextInt(Math.max(1, limit));
    }

    private void run() {
        for (int u = 0; u < 6; u++) {
            int unit = u;
            int group = floods ? 0 : u < 3 ? u : random.nextInt(3);
            both("unit", () -> bit(hall.unit(unit, group)), () -> bit(plain.unit(unit, group)));
        }
        int recipes = floods ? 1 : 1 + random.nextInt(4);
        for (int recipe = 0; recipe < recipes; recipe++) {
            writeRecipe(recipe);
        }
        while (calls < CALLS && Check.isAllRight()) {
            act(recipes);
            ask();
            if (random.nextInt(3) == 0) {
                ask();
            }
        }
        full += bit(plain.lots() == 100);
        for (int b = 0; b < plain.batches.size(); b++) {
            ends[plain.batchIs(b, 0)]++;
        }
    }

    private void writeRecipe(int recipe) {
        for (int role = 0; role < 3; role++) {
            int r = role;
            int group = floods ? role < 2 ? 0 : 3 : random.nextInt(20) == 0 ? 3 : random.nextInt(3);
            both("role", () -> bit(hall.role(recipe, r, group)), () -> bit(plain.role(recipe, r, group)));
        }
        List<int[]> rows = floods ? List.of(FLOOD) : new ChartMaker(random).make(random.nextInt(6) == 0 ? 1 : 0);
        for (int[] x : rows) {
            both("step", () -> hall.step(recipe, x[0], x[1], x[2], x[3]),
                    () -> plain.step(recipe, x[0], x[1], x[2], x[3]));
        }
        for (int i = 0; i < rows.size(); i++) {
            int[] x = rows.get(i);
            int at = i;
            both("link", () -> bit(hall.link(recipe, at, x[4], x[5])), () -> bit(plain.link(recipe, at, x[4], x[5])));
        }
        int fault = both("release", () -> hall.release(recipe), () -> plain.release(recipe));
        faults[fault]++;
    }

    private void act(int recipes) {
        int batch = pick(plain.batches.size());
        int dice = random.nextInt(100);
        if (dice < (floods ? 75 : 45)) {
            both("tick", hall::tick, plain::tick);
        } else if (dice < 58 || floods && dice < 85) {
            int recipe = random.nextInt(10) == 0 ? pick(4) : random.nextInt(recipes);
            int size = random.nextInt(20) == 0 ? 1001 : random.nextInt(random.nextInt(3) == 0 ? 1001 : 100);
            int made = both("batch", () -> hall.batch(recipe, size), () -> plain.batch(recipe, size));
            if (made >= 0 && random.nextInt(2) == 0) {
                both("start", () -> hall.start(made), () -> plain.start(made));
            }
        } else if (dice < 70) {
            both("start", () -> hall.start(batch), () -> plain.start(batch));
        } else if (dice < 84) {
            measure(batch);
        } else {
            actSeldom(batch, dice);
        }
    }

    /** Mostly a name that a SAMPLE waits for, so that batches come on. */
    private void measure(int any) {
        int batch = any;
        int name = pick(4);
        for (int b = 0; b < plain.batches.size() && random.nextInt(5) > 0; b++) {
            int awaited = plain.awaited(b);
            if (awaited >= 0 && random.nextInt(3) > 0) {
                batch = b;
                name = awaited;
            }
        }
        int value = random.nextInt(4) - 1;
        int of = batch;
        int n = name;
        both("measure", () -> bit(hall.measure(of, n, value)), () -> bit(plain.measure(of, n, value)));
    }

    private void actSeldom(int batch, int dice) {
        if (dice < 88) {
            both("hold", () -> { hall.hold(batch); return 0; }, () -> { plain.hold(batch); return 0; });
        } else if (dice < 93) {
            both("restart", () -> hall.restart(batch), () -> plain.restart(batch));
        } else if (dice < 95) {
            both("stop", () -> hall.stop(batch), () -> plain.stop(batch));
        } else if (dice < 97) {
            both("abort", () -> { hall.abort(batch); return 0; }, () -> { plain.abort(batch); return 0; });
        } else if (dice < 99) {
            int unit = pick(6);
            int group = pick(3);
            both("unit", () -> bit(hall.unit(unit, group)), () -> bit(plain.unit(unit, group)));
        } else {
            int recipe = pick(4);
            both("role", () -> bit(hall.role(recipe, 0, 0)), () -> bit(plain.role(recipe, 0, 0)));
            both("release", () -> hall.release(recipe), () -> plain.release(recipe));
        }
    }

    private void ask() {
        switch (random.nextInt(8)) {
            case 0:
            case 1:
            case 2:
                askOfBatch();
                break;
            case 3:
            case 4:
                askOfUnit();
                break;
            case 5:
                both("lots", hall::lots, plain::lots);
                break;
            default:
                askOfLot();
                break;
        }
    }

    private void askOfBatch() {
        int batch = pick(plain.batches.size());
        int what = pick(5);
        int role = pick(3);
        int place = pick(Math.max(1, plain.batchIs(batch, 3)));
        switch (random.nextInt(3)) {
            case 0:
                both("batchIs", () -> hall.batchIs(batch, what), () -> plain.batchIs(batch, what));
                break;
            case 1:
                both("token", () -> hall.token(batch, place), () -> plain.token(batch, place));
                break;
            default:
                both("unitOf", () -> hall.unitOf(batch, role), () -> plain.unitOf(batch, role));
                break;
        }
    }

    private void askOfUnit() {
        int unit = pick(6);
        int what = pick(4);
        int row = pick(2);
        int place = pick(plain.unitIs(unit, 2));
        if (random.nextInt(3) == 0) {
            both("unitIs", () -> hall.unitIs(unit, what), () -> plain.unitIs(unit, what));
        } else {
            both("content", () -> hall.content(unit, place, row), () -> plain.content(unit, place, row));
        }
    }

    private void askOfLot() {
        int lot = random.nextInt(2) == 0 ? pick(plain.lots()) : plain.lots() - 1 - random.nextInt(3);
        int what = pick(5);
        int row = pick(2);
        int place = pick(plain.lot(lot, 3));
        int far = pick(4);
        switch (random.nextInt(4)) {
            case 0:
                both("lot", () -> hall.lot(lot, what), () -> plain.lot(lot, what));
                break;
            case 1:
                both("from", () -> hall.from(lot, place, row), () -> plain.from(lot, place, row));
                break;
            case 2:
                both("origin", () -> hall.trace(lot, false, far), () -> plain.trace(lot, false, far));
                break;
            default:
                both("outcome", () -> hall.trace(lot, true, far), () -> plain.trace(lot, true, far));
                break;
        }
    }

    public static void main(String[] args) {
        for (int seed = 0; seed < RUNS && Check.isAllRight(); seed++) {
            new RandomRunTest(seed).run();
        }
        System.out.println("releases by fault " + Arrays.toString(faults) + ", batches by state "
                + Arrays.toString(ends) + ", runs with 100 lots " + full);
        Check.end();
    }
}
