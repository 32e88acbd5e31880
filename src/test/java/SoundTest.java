/** SOUND (promise 6): each range that it names, at both its ends and beyond, and all links. */
public final class SoundTest extends Charts {
    private static void due(String what, boolean sound, int[]... rows) {
        Check.same(what, write(1, rows).release(1), sound ? 0 : 1);
    }

    /** One number of a row goes through both ends of its range, what is beside them, and far beyond. */
    private static void range(String what, int low, int high, int[][] chart, int step, int column) {
        int[] inside = {low, high, (low + high) / 2};
        for (int number : inside) {
            chart[step][column] = number;
            due(what + " " + number, true, chart);
        }
        int[] beyond = {low - 1, high + 1, LOW, FAR};
        for (int number : beyond) {
            chart[step][column] = number;
            due(what + " " + number, false, chart);
        }
    }

    /** One number of a row may be anything. */
    private static void free(String what, int[][] chart, int step, int column) {
        int[] any = {LOW, -1, 0, step, 1000, FAR};
        for (int number : any) {
            chart[step][column] = number;
            due(what + " " + number, true, chart);
        }
    }

    private static int[][] alone(int[] phase) {
        return new int[][] {phase, end()};
    }

    private static int[][] chosen() {
        return new int[][] {sample(0, 1), sample(1, 2), sample(2, 3), sample(3, 4), choice(0, 5, 5), end()};
    }

    private static int[][] looped() {
        return new int[][] {heat(1), heat(2), loop(3, 0), end()};
    }

    private static int[][] forked() {
        return new int[][] {heat(1), fork(2, 3), heat(4), heat(4), join(5), heat(6), end()};
    }

    private static void numbers() {
        Check.about("CHARGE b 0 .. 500, c 0 .. 500");
        range("CHARGE b", 0, 500, alone(charge(0, 0, 0, 1)), 0, 2);
        range("CHARGE c", 0, 500, alone(charge(0, 0, 0, 1)), 0, 3);
        Check.about("HEAT, REACT b 1 .. 20");
        range("HEAT b", 1, 20, alone(heat(0, 1, 1)), 0, 2);
        range("REACT b", 1, 20, alone(react(0, 1, 1)), 0, 2);
        Check.about("MOVE b another role, c 1 .. 100");
        range("MOVE c", 1, 100, alone(move(0, 1, 1, 1)), 0, 3);
        range("MOVE b behind role 0", 1, 2, alone(move(0, 1, 1, 1)), 0, 2);
        range("MOVE b before role 2", 0, 1, alone(move(2, 1, 1, 1)), 0, 2);
        due("MOVE b 0 from role 1", true, move(1, 0, 1, 1), end());
        due("MOVE b 2 from role 1", true, move(1, 2, 1, 1), end());
        due("MOVE b 1 from role 1", false, move(1, 1, 1, 1), end());
        Check.about("SAMPLE b 0 .. 3");
        range("SAMPLE b", 0, 3, alone(sample(0, 1)), 0, 2);
        Check.about("CHOICE a 0 .. 3");
        range("CHOICE a", 0, 3, chosen(), 4, 1);
        Check.about("LOOP a 1 .. 5");
        range("LOOP a", 1, 5, looped(), 2, 1);
    }

    private static void freeNumbers() {
        Check.about("A step is SOUND if");
        free("HEAT c", alone(heat(1)), 0, 3);
        free("REACT c", alone(react(0, 1, 1)), 0, 3);
        free("SAMPLE c", alone(sample(0, 1)), 0, 3);
        free("CHOICE b", chosen(), 4, 2);
        free("CHOICE c", chosen(), 4, 3);
        for (int column = 1; column < 4; column++) {
            free("FORK", forked(), 1, column);
            free("JOIN", forked(), 4, column);
            free("END", forked(), 6, column);
        }
        free("LOOP b", looped(), 2, 2);
        free("LOOP c", looped(), 2, 3);
    }

    private static int[][] phases() {
        return new int[][] {charge(0, 1, 0, 1), heat(1), move(0, 1, 50, 1), react(0, 1, 1), sample(0, 1)};
    }

    private static void roles() {
        Check.about("roles have a class");
        for (int[] phase : phases()) {
            String what = "kind " + phase[0] + ", role";
            if (phase[0] == 2) {
                range(what, 0, 1, alone(move(0, 2, 50, 1)), 0, 1);
                range(what, 1, 2, alone(move(0, 0, 50, 1)), 0, 1);
            } else {
                range(what, 0, 2, alone(phase), 0, 1);
            }
        }
        for (int[] phase : phases()) {
            for (int without = 0; without < 3; without++) {
                BatchHall hall = write(0, phase, end());
                hall.role(0, without, 3);
                boolean named = without == 0 || without == 1 && phase[0] == 2;
                Check.same("kind " + phase[0] + ", role " + without + " without a class", hall.release(0),
                        named ? 1 : 0);
            }
        }
        BatchHall none = new BatchHall();
        append(none, 0, NO_ROLES, end());
        Check.same("an END alone needs none", none.release(0), 0);
    }

    /** NEXT of a step: one that comes later, the last one too, and no other. */
    private static void next(String what, int[][] chart, int step, int right) {
        int[] wrong = {-1, 0, step - 1, step, chart.length, chart.length + 1, 12, LOW, FAR};
        chart[step][4] = right;
        due(what + " NEXT " + right, true, chart);
        for (int number : wrong) {
            chart[step][4] = number;
            due(what + " NEXT " + number, false, chart);
        }
    }

    private static void nexts() {
        Check.about("NEXT (but of END) is a step that comes later");
        for (int[] phase : phases()) {
            int[][] chart = {heat(1), phase, end()};
            next("kind " + phase[0], chart, 1, 2);
        }
        next("FORK", forked(), 1, 2);
        next("JOIN", forked(), 4, 5);
        next("CHOICE", chosen(), 4, 5);
        next("LOOP", looped(), 2, 3);
        int[][] ended = {heat(1), end()};
        free("NEXT of END", ended, 1, 4);
        due("a recipe whose last step is no END", false, heat(1), heat(2));
        due("the same step with END behind it", true, heat(1), heat(2), end());
    }

    private static void others() {
        Check.about("OTHER of FORK and CHOICE, too");
        int[] wrong = {-1, 0, 1, 7, 8, 12, LOW, FAR};
        for (int number : wrong) {
            int[][] chart = forked();
            chart[1][5] = number;
            due("OTHER of FORK " + number, false, chart);
        }
        due("OTHER of FORK", true, forked());
        int[][] chart = chosen();
        int[] wrongChoices = {-1, 0, 3, 4, 6, 7, 12, LOW, FAR};
        for (int number : wrongChoices) {
            chart[4][5] = number;
            due("OTHER of CHOICE " + number, false, chart);
        }
        chart[4][5] = 5;
        due("OTHER of CHOICE is its NEXT", true, chart);
        due("OTHER of CHOICE is the last", true, sample(0, 1), choice(0, 2, 3), heat(3), end());
    }

    private static void othersOfLoop() {
        Check.about("OTHER of LOOP one that comes before (or itself not)");
        range("OTHER of LOOP", 0, 1, looped(), 2, 5);
        due("OTHER of LOOP is itself", false, heat(1), loop(2, 1), end());
        due("OTHER of LOOP is its NEXT", false, heat(1), loop(2, 2), end());
        due("OTHER of a LOOP that is the first", false, loop(1, 0), end());
        due("nor is there one before it", false, loop(1, -1), end());
    }

    private static void othersOfTheRest() {
        Check.about("others' OTHER means nothing");
        for (int[] phase : phases()) {
            int[][] chart = {heat(1), phase, end()};
            phase[4] = 2;
            free("OTHER of kind " + phase[0], chart, 1, 5);
        }
        free("OTHER of JOIN", forked(), 4, 5);
        free("OTHER of END", forked(), 6, 5);
        Check.same("and leads nowhere", write(0, row(1, 0, 1, 0, 2, 1), end(), end()).release(0), 2);
        Check.same("nor from a JOIN", write(0, fork(1, 2), heat(3), heat(3), row(6, 0, 0, 0, 5, 4), heat(5), end())
                .release(0), 2);
        Check.same("nor from an END", write(0, row(9, 0, 0, 0, 1, 1), end()).release(0), 2);
        BatchHall hall = running(0, row(1, 0, 1, 0, 1, 2), row(1, 1, 1, 0, 2, 0), row(1, 2, 1, 0, 3, 0), end());
        hall.tick();
        tokensAre("nor is it gone to", hall, 17);
        hall.tick();
        tokensAre("not there, either", hall, 18);
    }

    private static void soundInEveryPlace() {
        Check.about("1 no steps, or one isn't SOUND");
        Check.same("no steps", new BatchHall().release(0), 1);
        for (int place = 0; place < 11; place++) {
            int[][] chart = new int[12][];
            for (int i = 0; i < 11; i++) {
                chart[i] = heat(0, i == place ? 21 : 20, i + 1);
            }
            chart[11] = end();
            due("step " + place + " isn't", false, chart);
            chart[place][2] = 20;
            due("all are", true, chart);
        }
    }

    public static void main(String[] args) {
        numbers();
        freeNumbers();
        roles();
        nexts();
        others();
        othersOfLoop();
        othersOfTheRest();
        soundInEveryPlace();
        Check.end();
    }
}
