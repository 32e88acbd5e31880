/** What tests that write charts are built upon: a chart's rows are kind, a, b, c, NEXT, OTHER. */
abstract class Charts {
    /** A new hall with one recipe, whose three roles are of class 0, as all units are. */
    static BatchHall write(int recipe, int[]... rows) {
        BatchHall hall = new BatchHall();
        append(hall, recipe, new int[] {0, 0, 0}, rows);
        return hall;
    }

    static BatchHall released(int[]... rows) {
        BatchHall hall = write(0, rows);
        Check.same("release", hall.release(0), 0);
        return hall;
    }

    /** A recipe more, released. */
    static void release(BatchHall hall, int recipe, int[] groups, int[]... rows) {
        append(hall, recipe, groups, rows);
        Check.same("release", hall.release(recipe), 0);
    }

    private static void append(BatchHall hall, int recipe, int[] groups, int[]... rows) {
        for (int role = 0; role < 3; role++) {
            hall.role(recipe, role, groups[role]);
        }
        for (int[] x : rows) {
            hall.step(recipe, x[0], x[1], x[2], x[3]);
        }
        for (int i = 0; i < rows.length; i++) {
            hall.link(recipe, i, rows[i][4], rows[i][5]);
        }
    }

    static int[] row(int kind, int a, int b, int c, int next, int other) {
        return new int[] {kind, a, b, c, next, other};
    }

    static int[] charge(int role, int amount, int hundredths, int next) {
        return row(0, role, amount, hundredths, next, -1);
    }

    static int[] heat(int role, int ticks, int next) {
        return row(1, role, ticks, 0, next, -1);
    }

    static int[] move(int role, int into, int hundredths, int next) {
        return row(2, role, into, hundredths, next, -1);
    }

    static int[] react(int role, int ticks, int next) {
        return row(3, role, ticks, 0, next, -1);
    }

    static int[] heat(int next) {
        return row(1, 0, 1, 0, next, -1);
    }

    static int[] sample(int name, int next) {
        return row(4, 0, name, 0, next, -1);
    }

    static int[] fork(int next, int other) {
        return row(5, 0, 0, 0, next, other);
    }

    static int[] join(int next) {
        return row(6, 0, 0, 0, next, -1);
    }

    static int[] choice(int name, int next, int other) {
        return row(7, name, 1, 0, next, other);
    }

    static int[] loop(int next, int other) {
        return row(8, 1, 0, 0, next, other);
    }

    static int[] end() {
        return row(9, 0, 0, 0, -1, -1);
    }
}
