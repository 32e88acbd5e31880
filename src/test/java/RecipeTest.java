/** Promises 2 to 6: unit, role, step, link, release. */
public final class RecipeTest extends Charts {
    private static final int FAR = Integer.MAX_VALUE;
    private static final int LOW = Integer.MIN_VALUE;

    private static void due(String what, int want, int[]... rows) {
        Check.same(what, write(1, rows).release(1), want);
    }

    private static void unit() {
        BatchHall hall = new BatchHall();
        Check.yes("unit(5, 2)", hall.unit(5, 2));
        Check.same("its class", hall.unitIs(5, 1), 2);
        Check.yes("unit(5, 0)", hall.unit(5, 0));
        Check.same("its class again", hall.unitIs(5, 1), 0);
        Check.no("unit(6, 0)", hall.unit(6, 0));
        Check.no("unit(-1, 0)", hall.unit(-1, 0));
        Check.no("unit(0, 3)", hall.unit(0, 3));
        Check.no("unit(0, -1)", hall.unit(0, -1));
        Check.no("unit(LOW, FAR)", hall.unit(LOW, FAR));
        Check.same("class is as it was", hall.unitIs(0, 1), 0);
        BatchHall owned = write(0, heat(1), end());
        owned.release(0);
        owned.batch(0, 0);
        owned.start(0);
        Check.no("an owned one", owned.unit(2, 1));
        Check.yes("one without an owner", owned.unit(3, 1));
        owned.abort(0);
        Check.yes("one given back", owned.unit(2, 1));
    }

    private static void role() {
        BatchHall hall = write(0, heat(1), end());
        Check.yes("role(0, 0, 3)", hall.role(0, 0, 3));
        Check.same("a role without a class", hall.release(0), 1);
        Check.yes("role(0, 0, 2)", hall.role(0, 0, 2));
        Check.same("no unit of class 2", hall.release(0), 5);
        Check.no("role(0, 0, 4)", hall.role(0, 0, 4));
        Check.no("role(0, 0, -1)", hall.role(0, 0, -1));
        Check.no("role(0, 3, 0)", hall.role(0, 3, 0));
        Check.no("role(0, -1, 0)", hall.role(0, -1, 0));
        Check.no("role(4, 0, 0)", hall.role(4, 0, 0));
        Check.no("role(-1, 0, 0)", hall.role(-1, 0, 0));
        Check.yes("role(0, 0, 1)", hall.role(0, 0, 1));
        hall.unit(4, 1);
        Check.same("released", hall.release(0), 0);
        Check.no("a released one's role", hall.role(0, 0, 1));
        hall.batch(0, 0);
        hall.start(0);
        Check.same("the unit for role 0", hall.unitOf(0, 0), 4);
    }

    private static void step() {
        BatchHall hall = new BatchHall();
        Check.same("no such recipe", hall.step(4, 9, 0, 0, 0), -1);
        Check.same("no such recipe", hall.step(-1, 9, 0, 0, 0), -1);
        Check.same("no such kind", hall.step(0, 10, 0, 0, 0), -1);
        Check.same("no such kind", hall.step(0, -1, 0, 0, 0), -1);
        Check.same("not SOUND, but there", hall.step(0, 0, FAR, LOW, FAR), 0);
        for (int i = 1; i < 12; i++) {
            Check.same("step " + i, hall.step(0, i % 10, 0, 0, 0), i);
        }
        Check.same("a 13th", hall.step(0, 9, 0, 0, 0), -1);
        Check.same("another recipe's first", hall.step(3, 9, 0, 0, 0), 0);
        Check.same("not SOUND", hall.release(0), 1);
        Check.same("released", hall.release(3), 0);
        Check.same("a step for a released one", hall.step(3, 9, 0, 0, 0), -1);
        hall.step(2, 6, 0, 0, 0);
        hall.step(2, 9, 0, 0, 0);
        Check.same("a step has no NEXT at first", hall.release(2), 1);
    }

    private static void link() {
        BatchHall hall = new BatchHall();
        Check.no("no such step", hall.link(0, 0, 0, 0));
        hall.role(0, 0, 0);
        hall.step(0, 1, 0, 1, 0);
        hall.step(0, 9, 0, 0, 0);
        Check.no("no such step", hall.link(0, 2, 0, 0));
        Check.no("no such step", hall.link(0, -1, 0, 0));
        Check.no("no such recipe", hall.link(4, 0, 0, 0));
        Check.no("no such recipe", hall.link(-1, 0, 0, 0));
        Check.yes("any numbers", hall.link(0, 0, FAR, LOW));
        Check.same("which aren't SOUND", hall.release(0), 1);
        Check.yes("others' OTHER means nothing", hall.link(0, 0, 1, FAR));
        Check.yes("nor do those of END", hall.link(0, 1, LOW, FAR));
        Check.same("released", hall.release(0), 0);
        Check.no("a released one's link", hall.link(0, 0, 1, 0));
    }

    private static void releaseThrows() {
        BatchHall hall = write(0, end());
        Check.badArgument("release(4)", () -> hall.release(4));
        Check.badArgument("release(-1)", () -> hall.release(-1));
        Check.same("release(0)", hall.release(0), 0);
        Check.badState("release(0) again", () -> hall.release(0));
        Check.same("an empty one", hall.release(3), 1);
        Check.same("and again", hall.release(3), 1);
    }

    private static void soundNumbers() {
        int[][] right = {
            {0, 0, 0, 0}, {0, 2, 500, 500}, {1, 1, 1, FAR}, {1, 1, 20, 0}, {2, 0, 1, 1}, {2, 2, 0, 100},
            {3, 0, 1, 0}, {3, 0, 20, 0}, {4, 0, 0, 0}, {4, 0, 3, 0}};
        for (int[] x : right) {
            due("SOUND: kind " + x[0] + ", " + x[2], 0, row(x[0], x[1], x[2], x[3], 1, LOW), end());
        }
        int[][] wrong = {
            {0, 3, 0, 0}, {0, -1, 0, 0}, {0, 0, 501, 0}, {0, 0, -1, 0}, {0, 0, 0, 501}, {0, 0, 0, -1},
            {1, 3, 1, 0}, {1, 0, 0, 0}, {1, 0, 21, 0}, {2, 0, 0, 50}, {2, 0, 3, 50}, {2, 3, 0, 50}, {2, 0, -1, 50},
            {2, 0, 1, 0}, {2, 0, 1, 101}, {3, 0, 0, 0}, {3, 0, 21, 0}, {3, -1, 1, 0}, {4, 0, 4, 0}, {4, 0, -1, 0},
            {4, 3, 0, 0}};
        for (int[] x : wrong) {
            due("not SOUND: kind " + x[0] + ", " + x[1] + ", " + x[2] + ", " + x[3], 1,
                    row(x[0], x[1], x[2], x[3], 1, 0), end());
        }
        due("CHOICE of name 4", 1, row(7, 4, 0, 0, 1, 1), end());
        due("CHOICE of name -1", 1, row(7, -1, 0, 0, 1, 1), end());
        for (int times = 0; times <= 6; times++) {
            due("LOOP " + times, times >= 1 && times <= 5 ? 0 : 1, heat(1), row(8, times, 0, 0, 2, 0), end());
        }
        BatchHall hall = write(0, row(2, 0, 1, 50, 1, 0), end());
        hall.role(0, 1, 3);
        Check.same("MOVE into a role without a class", hall.release(0), 1);
    }

    private static void soundLinks() {
        due("NEXT is itself", 1, heat(0), end());
        due("NEXT behind the last", 1, heat(2), end());
        due("NEXT before it", 1, heat(2), heat(0), end());
        due("no END, so no NEXT", 1, heat(1), heat(2));
        due("OTHER of FORK is itself", 1, fork(1, 0), end());
        due("OTHER of FORK behind the last", 1, fork(1, 2), end());
        due("OTHER of CHOICE before it", 1, sample(0, 1), choice(0, 2, 0), end());
        due("OTHER of CHOICE is itself", 1, sample(0, 1), choice(0, 2, 1), end());
        due("OTHER of CHOICE is its NEXT", 0, sample(0, 1), choice(0, 2, 2), end());
        due("OTHER of LOOP is itself", 1, heat(1), loop(2, 1), end());
        due("OTHER of LOOP comes later", 1, heat(1), loop(2, 2), end());
        due("OTHER of LOOP is none", 1, heat(1), loop(2, -1), end());
        due("a LOOP can't be the first", 1, loop(1, 0), end());
    }

    private static void reached() {
        due("END is behind all", 2, end(), end());
        due("one left out", 2, heat(2), heat(2), end());
        due("END goes nowhere", 2, row(9, 0, 0, 0, 1, 1), end());
        due("by NEXT of a LOOP, back", 0, heat(2), heat(2), loop(3, 1), end());
        due("by OTHER of a CHOICE", 0, sample(0, 1), choice(0, 2, 3), end(), end());
        due("a phase's OTHER is no way", 2, row(1, 0, 1, 0, 2, 1), end(), end());
        due("2 is before 3", 2, fork(2, 2), heat(2), end());
        due("1 is before 2", 1, heat(2), heat(1), end());
    }

    private static void branches() {
        due("two branches", 0, fork(1, 2), heat(3), heat(3), join(4), end());
        due("END in a branch", 3, fork(1, 2), end(), heat(3), end());
        due("a branch without a step", 3, fork(1, 2), heat(2), join(3), end());
        due("neither has one", 3, fork(1, 1), join(2), end());
        due("both begin at one step", 3, fork(1, 1), heat(2), join(3), end());
        due("no JOIN", 3, fork(1, 2), heat(3), heat(3), end());
        due("a JOIN without a FORK", 3, heat(1), join(2), end());
        due("a JOIN first", 3, join(1), end());
        due("a JOIN first, come back to", 3, join(1), loop(2, 0), end());
        due("two JOINs for one FORK", 3, fork(1, 2), heat(3), heat(4), join(5), join(5), end());
        due("one branch ends twice", 3, sample(0, 1), fork(2, 3), choice(0, 4, 5), heat(4), join(5), join(6), end());
        due("both branches end twice", 3, sample(0, 1), fork(2, 3), choice(0, 4, 5), choice(0, 4, 5), join(6), join(6),
                end());
        due("one JOIN for two FORKs", 3, sample(0, 1), choice(0, 2, 5), fork(3, 4), heat(8), heat(8), fork(6, 7),
                heat(8), heat(8), join(9), end());
        due("END beside the JOIN", 3, sample(0, 1), fork(2, 3), choice(0, 4, 5), heat(4), join(6), end(), end());
        due("a branch comes in two ways", 0, sample(0, 1), fork(2, 3), choice(0, 4, 5), heat(6), heat(6), heat(6),
                join(7), end());
        due("a LOOP inside a branch", 0, fork(1, 3), heat(2), loop(4, 1), heat(4), join(5), end());
        due("a LOOP out of a branch", 3, heat(1), fork(2, 4), heat(3), loop(5, 0), heat(5), join(6), end());
        due("a LOOP into a branch", 3, fork(1, 2), heat(3), heat(3), join(4), loop(5, 1), end());
        due("a LOOP to the FORK", 0, fork(1, 2), heat(3), heat(3), join(4), loop(5, 0), end());
        due("a LOOP to the JOIN", 3, fork(1, 2), heat(3), heat(3), join(4), loop(5, 3), end());
        due("a LOOP over the FORK", 0, heat(1), fork(2, 3), heat(4), heat(4), join(5), loop(6, 0), end());
        due("from one branch into the other", 3, sample(0, 1), fork(2, 3), choice(0, 3, 4), heat(4), join(5), end());
        due("a FORK in a branch", 0, fork(1, 5), fork(2, 3), heat(4), heat(4), join(6), heat(6), join(7), end());
        due("a JOIN of an inner and an outer branch", 3,
                fork(1, 4), fork(2, 3), heat(5), heat(6), heat(5), join(6), join(7), end());
        due("a JOIN for three", 3, fork(1, 4), fork(2, 3), heat(5), heat(5), heat(5), join(6), end());
        due("two FORKs one behind the other", 0, fork(1, 2), heat(3), heat(3), join(4), fork(5, 6), heat(7), heat(7),
                join(8), end());
        due("a CHOICE past a FORK", 0, sample(0, 1), choice(0, 2, 6), fork(3, 4), heat(5), heat(5), join(6), end());
        due("a CHOICE into a branch", 3, sample(0, 1), choice(0, 2, 3), fork(3, 4), heat(5), heat(5), join(6), end());
    }

    private static void measured() {
        due("CHOICE first", 4, choice(0, 1, 1), end());
        due("another name", 4, sample(1, 1), choice(0, 2, 2), end());
        due("measured", 0, sample(0, 1), choice(0, 2, 2), end());
        due("on one of two ways", 4, sample(0, 1), choice(0, 2, 3), sample(1, 3), choice(1, 4, 4), end());
        due("on both ways", 0, sample(0, 1), choice(0, 2, 3), sample(1, 4), sample(1, 4), choice(1, 5, 5), end());
        due("in one branch", 0, fork(1, 2), sample(0, 3), heat(3), join(4), choice(0, 5, 5), end());
        due("in the other branch", 0, fork(1, 2), heat(3), sample(0, 3), join(4), choice(0, 5, 5), end());
        due("behind what is behind the JOIN", 0, fork(1, 2), sample(0, 3), heat(3), join(4), heat(5), choice(0, 6, 6),
                end());
        due("in no branch", 4, fork(1, 2), heat(3), heat(3), join(4), choice(0, 5, 5), end());
        due("in the branch beside", 4, fork(1, 2), sample(0, 3), choice(0, 3, 3), join(4), end());
        due("before the FORK", 0, sample(0, 1), fork(2, 3), heat(4), choice(0, 4, 4), join(5), end());
        due("on one way of one branch", 4, sample(0, 1), fork(2, 5), choice(0, 3, 4), sample(1, 6), heat(6), heat(6),
                join(7), choice(1, 8, 8), end());
        due("on the other way of one branch", 4, sample(0, 1), fork(2, 5), choice(0, 3, 4), heat(6), sample(1, 6),
                heat(6), join(7), choice(1, 8, 8), end());
        due("on one way here, on all there", 0, sample(0, 1), fork(2, 5), choice(0, 3, 4), sample(1, 6), heat(6),
                sample(1, 6), join(7), choice(1, 8, 8), end());
        due("only where a LOOP goes back to", 4, heat(2), sample(0, 2), loop(3, 1), choice(0, 4, 4), end());
        due("a CHOICE where no other way goes to", 0, heat(2), choice(3, 2, 2), loop(3, 1), end());
        due("behind it, too", 4, heat(2), choice(3, 2, 2), loop(3, 1), choice(3, 4, 4), end());
        due("wrong branches come first", 3, choice(0, 1, 1), fork(2, 3), heat(4), heat(4), end());
    }

    private static void enoughUnits() {
        BatchHall hall = write(0, heat(1), end());
        hall.role(0, 0, 1);
        hall.role(0, 1, 1);
        hall.role(0, 2, 3);
        hall.unit(3, 1);
        Check.same("one unit for two roles", hall.release(0), 5);
        hall.unit(0, 1);
        Check.same("two units for two roles", hall.release(0), 0);
        BatchHall unused = write(0, end());
        unused.role(0, 2, 2);
        Check.same("a role that no step names counts", unused.release(0), 5);
        BatchHall busy = write(0, heat(1), end());
        busy.release(0);
        busy.batch(0, 0);
        busy.batch(0, 0);
        busy.start(0);
        busy.start(1);
        for (int role = 0; role < 3; role++) {
            busy.role(1, role, 0);
        }
        busy.step(1, 9, 0, 0, 0);
        Check.same("units with an owner count", busy.release(1), 0);
        Check.same("4 is before 5", choiceWithoutUnits().release(0), 4);
    }

    private static BatchHall choiceWithoutUnits() {
        BatchHall hall = write(0, choice(0, 1, 1), end());
        hall.role(0, 0, 2);
        return hall;
    }

    public static void main(String[] args) {
        unit();
        role();
        step();
        link();
        releaseThrows();
        soundNumbers();
        soundLinks();
        reached();
        branches();
        measured();
        enoughUnits();
        Check.end();
    }
}
