/** What tests that write charts are built upon: a chart's rows are kind, a, b, c, NEXT, OTHER. */
abstract class Charts {
    static final int FAR = Integer.MAX_VALUE;
    static final int LOW = Integer.MIN_VALUE;

    static final int MADE = 0;
    static final int WAITING = 1;
    static final int RUNNING = 2;
    static final int HELD = 3;
    static final int STOPPING = 4;
    static final int STOPPED = 5;
    static final int ABORTED = 6;
    static final int COMPLETE = 7;

    static final int[] NO_ROLES = {3, 3, 3};
    static final int[] ONE_ROLE = {0, 3, 3};

    /** A new hall with one recipe, whose three roles are of class 0, as all units are. */
    static BatchHall write(int recipe, int[]... rows) {
        BatchHall hall = new BatchHall();
        append(hall, recipe, new int[] {0, 0, 0}, rows);
        return hall;
    }

    static BatchHall released(int[]... rows) {
        BatchHall hall = write(0, rows);
        Check.same("release", hall.release(0), 0);
        return hall;
    }

    /** Batch 0 of a released recipe, started; its roles 0 to 2 have the units 0 to 2. */
    static BatchHall running(int size, int[]... rows) {
        BatchHall hall = released(rows);
        hall.batch(0, size);
        hall.start(0);
        return hall;
    }

    /** A recipe more, released. */
    static void release(BatchHall hall, int recipe, int[] groups, int[]... rows) {
        append(hall, recipe, groups, rows);
        Check.same("release", hall.release(recipe), 0);
    }

    static void append(BatchHall hall, int recipe, int[] groups, int[]... rows) {
        for (int role = 0; role < 3; role++) {
            hall.role(recipe, role, groups[role]);
        }
        for (int[] x : rows) {
            hall.step(recipe, x[0], x[1], x[2], x[3]);
        }
        for (int i = 0; i < rows.length; i++) {
            hall.link(recipe, i, rows[i][4], rows[i][5]);
        }
    }

    /** Beside the first of so many numbers, beside the last, and as far away as can be. */
    static int[] outside(int count) {
        return new int[] {-1, count, LOW, FAR};
    }

    static void makeBatches(BatchHall hall, int... recipes) {
        for (int recipe : recipes) {
            hall.batch(recipe, 0);
        }
    }

    static void ticks(BatchHall hall, int count) {
        for (int i = 0; i < count; i++) {
            hall.tick();
        }
    }

    static void stateIs(BatchHall hall, int batch, int want) {
        Check.same("state of " + batch, hall.batchIs(batch, 0), want);
    }

    static void tokensAre(String what, BatchHall hall, int... want) {
        for (int i = 0; i < want.length; i++) {
            Check.same(what + ": token " + i, hall.token(0, i), want[i]);
        }
        Check.same(what + ": no token more", hall.token(0, want.length), -1);
        Check.same(what + ": how many", hall.batchIs(0, 3), want.length);
    }

    /** What is wanted is lot, amount, lot, amount, .. */
    static void contentIs(String what, BatchHall hall, int unit, int... want) {
        int all = 0;
        for (int i = 0; i < want.length / 2; i++) {
            Check.same(what + ": lot " + i + " in " + unit, hall.content(unit, i, 0), want[2 * i]);
            Check.same(what + ": amount " + i + " in " + unit, hall.content(unit, i, 1), want[2 * i + 1]);
            all += want[2 * i + 1];
        }
        Check.same(what + ": no lot more", hall.content(unit, want.length / 2, 0), -1);
        Check.same(what + ": how many", hall.unitIs(unit, 2), want.length / 2);
        Check.same(what + ": how much", hall.unitIs(unit, 3), all);
    }

    static int[] row(int kind, int a, int b, int c, int next, int other) {
        return new int[] {kind, a, b, c, next, other};
    }

    static int[] charge(int role, int amount, int hundredths, int next) {
        return row(0, role, amount, hundredths, next, -1);
    }

    static int[] heat(int role, int ticks, int next) {
        return row(1, role, ticks, 0, next, -1);
    }

    static int[] move(int role, int into, int hundredths, int next) {
        return row(2, role, into, hundredths, next, -1);
    }

    static int[] react(int role, int ticks, int next) {
        return row(3, role, ticks, 0, next, -1);
    }

    static int[] heat(int next) {
        return row(1, 0, 1, 0, next, -1);
    }

    static int[] sample(int name, int next) {
        return row(4, 0, name, 0, next, -1);
    }

    static int[] fork(int next, int other) {
        return row(5, 0, 0, 0, next, other);
    }

    static int[] join(int next) {
        return row(6, 0, 0, 0, next, -1);
    }

    static int[] choice(int name, int next, int other) {
        return row(7, name, 1, 0, next, other);
    }

    static int[] loop(int next, int other) {
        return row(8, 1, 0, 0, next, other);
    }

    static int[] loop(int times, int next, int other) {
        return row(8, times, 0, 0, next, other);
    }

    static int[] end() {
        return row(9, 0, 0, 0, -1, -1);
    }
}
