/** Promises 7 to 13, 15, 17: batch, start, tick, hold, restart, stop, abort, batchIs, unitOf, and CLAIMS. */
public final class BatchTest extends Charts {
    private static final int MADE = 0;
    private static final int WAITING = 1;
    private static final int RUNNING = 2;
    private static final int HELD = 3;
    private static final int STOPPING = 4;
    private static final int STOPPED = 5;
    private static final int ABORTED = 6;
    private static final int COMPLETE = 7;
    private static final int[] NO_ROLES = {3, 3, 3};

    private static void stateIs(BatchHall hall, int batch, int want) {
        Check.same("state of " + batch, hall.batchIs(batch, 0), want);
    }

    private static BatchHall heating(int ticks) {
        return released(heat(0, ticks, 1), end());
    }

    private static void batch() {
        BatchHall hall = heating(1);
        Check.badArgument("no such recipe", () -> hall.batch(4, 1));
        Check.badArgument("no such recipe", () -> hall.batch(-1, 1));
        Check.badArgument("size 1001", () -> hall.batch(0, 1001));
        Check.badArgument("size -1", () -> hall.batch(0, -1));
        Check.badArgument("no such size of one that isn't released", () -> hall.batch(1, 1001));
        Check.badState("not released", () -> hall.batch(1, 1));
        Check.same("the first", hall.batch(0, 1000), 0);
        Check.same("the second", hall.batch(0, 0), 1);
        Check.same("its size", hall.batchIs(0, 2), 1000);
        for (int i = 2; i < 16; i++) {
            Check.same("batch " + i, hall.batch(0, i), i);
        }
        Check.badState("a 17th", () -> hall.batch(0, 1));
        Check.badArgument("a 17th of no such size", () -> hall.batch(0, 1001));
        Check.same("there is none such", hall.batchIs(16, 0), -1);
    }

    private static void batchIs() {
        BatchHall hall = released(fork(1, 2), heat(0, 2, 3), heat(0, 1, 3),
                join(4), end());
        release(hall, 2, NO_ROLES, end());
        hall.batch(2, 7);
        hall.batch(0, 8);
        Check.same("recipe", hall.batchIs(0, 1), 2);
        Check.same("size", hall.batchIs(1, 2), 8);
        Check.same("tokens of one that is MADE", hall.batchIs(1, 3), 0);
        hall.start(1);
        Check.same("tokens", hall.batchIs(1, 3), 2);
        Check.same("phases that have begun", hall.batchIs(1, 4), 1);
        Check.same("another what", hall.batchIs(1, 5), -1);
        Check.same("another what", hall.batchIs(1, -1), -1);
        Check.same("no such batch", hall.batchIs(2, 0), -1);
        Check.same("no such batch", hall.batchIs(-1, 0), -1);
        hall.abort(1);
        Check.same("tokens of one that is over", hall.batchIs(1, 3), 0);
        Check.same("phases of one that is over", hall.batchIs(1, 4), 0);
    }

    private static void start() {
        BatchHall hall = heating(2);
        release(hall, 1, NO_ROLES, end());
        for (int i = 0; i < 3; i++) {
            hall.batch(0, 0);
        }
        hall.batch(1, 0);
        stateIs(hall, 0, MADE);
        Check.same("gets its units", hall.start(0), RUNNING);
        Check.same("gets its units", hall.start(1), RUNNING);
        Check.same("waits", hall.start(2), WAITING);
        Check.same("needs nothing, and is over at once", hall.start(3), COMPLETE);
        Check.badArgument("start(4)", () -> hall.start(4));
        Check.badArgument("start(-1)", () -> hall.start(-1));
        for (int i = 0; i < 4; i++) {
            int batch = i;
            Check.badState("start again", () -> hall.start(batch));
        }
    }

    private static void unitOf() {
        BatchHall hall = new BatchHall();
        hall.unit(0, 1);
        hall.unit(4, 1);
        release(hall, 0, new int[] {1, 0, 1}, heat(0, 1, 1), end());
        release(hall, 1, new int[] {3, 3, 0}, heat(2, 5, 1), end());
        hall.batch(0, 0);
        hall.batch(1, 0);
        Check.same("of one that is MADE", hall.unitOf(0, 0), -1);
        hall.start(0);
        hall.start(1);
        Check.same("the least of class 1", hall.unitOf(0, 0), 0);
        Check.same("the least of class 0", hall.unitOf(0, 1), 1);
        Check.same("the next of class 1", hall.unitOf(0, 2), 4);
        Check.same("the owner", hall.unitIs(4, 0), 0);
        Check.same("no such role", hall.unitOf(0, 3), -1);
        Check.same("no such role", hall.unitOf(0, -1), -1);
        Check.same("no such batch", hall.unitOf(2, 0), -1);
        Check.same("no such batch", hall.unitOf(-1, 0), -1);
        Check.same("a role without a class", hall.unitOf(1, 0), -1);
        Check.same("another batch's", hall.unitOf(1, 2), 2);
        hall.tick();
        Check.same("given back", hall.unitOf(0, 0), -1);
        Check.same("no owner", hall.unitIs(4, 0), -1);
        Check.same("still owned", hall.unitIs(2, 0), 1);
    }

    /** Units 0 to 2 are of class 0, 3 and 4 of class 1, 5 of class 2. */
    private static BatchHall threeClasses() {
        BatchHall hall = new BatchHall();
        hall.unit(3, 1);
        hall.unit(4, 1);
        hall.unit(5, 2);
        release(hall, 0, new int[] {0, 0, 3}, heat(0, 2, 1), end());
        release(hall, 1, new int[] {0, 1, 3}, heat(0, 2, 1), end());
        release(hall, 2, new int[] {1, 3, 3}, heat(0, 2, 1), end());
        release(hall, 3, new int[] {3, 3, 2}, heat(2, 2, 1), end());
        return hall;
    }

    private static void claims() {
        BatchHall hall = threeClasses();
        int[] recipes = {0, 0, 1, 2, 3};
        for (int recipe : recipes) {
            hall.batch(recipe, 0);
        }
        Check.same("two of class 0", hall.start(0), RUNNING);
        Check.same("one of class 0 is too few", hall.start(1), WAITING);
        Check.same("class 0 is wanted by one before", hall.start(2), WAITING);
        Check.same("class 1 is wanted by one before", hall.start(3), WAITING);
        Check.same("class 2 isn't", hall.start(4), RUNNING);
        hall.abort(1);
        stateIs(hall, 2, RUNNING);
        stateIs(hall, 3, RUNNING);
        Check.same("role 0 has the least left", hall.unitOf(2, 0), 2);
        Check.same("role 1 of class 1", hall.unitOf(2, 1), 3);
        Check.same("the one behind it", hall.unitOf(3, 0), 4);
    }

    private static void claimsInOrderOfStart() {
        BatchHall hall = threeClasses();
        for (int i = 0; i < 3; i++) {
            hall.batch(3, 0);
        }
        hall.start(2);
        hall.start(1);
        hall.start(0);
        hall.tick();
        Check.same("2 is over, 1 has its unit but doesn't go on", hall.tick(), 1);
        stateIs(hall, 2, COMPLETE);
        stateIs(hall, 1, RUNNING);
        stateIs(hall, 0, WAITING);
        hall.tick();
        stateIs(hall, 1, RUNNING);
        hall.tick();
        stateIs(hall, 1, COMPLETE);
        stateIs(hall, 0, RUNNING);
    }

    private static void claimsNotByUnit() {
        BatchHall hall = threeClasses();
        hall.batch(3, 0);
        hall.batch(3, 0);
        hall.batch(2, 0);
        hall.start(0);
        hall.start(1);
        hall.unit(0, 2);
        stateIs(hall, 1, WAITING);
        hall.tick();
        stateIs(hall, 1, WAITING);
        Check.same("another one's start serves it", hall.start(2), RUNNING);
        stateIs(hall, 1, RUNNING);
        Check.same("its unit", hall.unitOf(1, 2), 0);
    }

    private static void overAtOnceServesTheNext() {
        BatchHall hall = new BatchHall();
        hall.unit(5, 2);
        release(hall, 0, new int[] {2, 3, 3}, heat(0, 1, 1), end());
        release(hall, 1, new int[] {2, 3, 3}, end());
        int[] recipes = {0, 1, 1, 0};
        for (int recipe : recipes) {
            hall.batch(recipe, 0);
        }
        for (int i = 0; i < 4; i++) {
            hall.start(i);
        }
        Check.same("0, 1, 2 are over, and 3, too, in one tick", hall.tick(), 0);
        stateIs(hall, 1, COMPLETE);
        stateIs(hall, 2, COMPLETE);
        stateIs(hall, 3, COMPLETE);
    }

    private static void tick() {
        BatchHall hall = heating(2);
        for (int i = 0; i < 5; i++) {
            hall.batch(0, 0);
        }
        Check.same("none is busy", hall.tick(), 0);
        for (int i = 0; i < 4; i++) {
            hall.start(i);
        }
        hall.hold(0);
        hall.stop(1);
        Check.same("HELD and STOPPING count, WAITING doesn't", hall.tick(), 2);
        stateIs(hall, 1, STOPPING);
        Check.same("1 is STOPPED, 2 goes on in its place", hall.tick(), 2);
        stateIs(hall, 1, STOPPED);
        stateIs(hall, 2, RUNNING);
        Check.same("2 went on in the tick before", hall.tick(), 2);
        stateIs(hall, 2, COMPLETE);
        stateIs(hall, 3, RUNNING);
        Check.same("so did 3", hall.tick(), 1);
        stateIs(hall, 3, COMPLETE);
        stateIs(hall, 4, MADE);
        Check.same("the one that is HELD", hall.tick(), 1);
        stateIs(hall, 0, HELD);
    }

    private static void hold() {
        BatchHall hall = heating(2);
        for (int i = 0; i < 3; i++) {
            hall.batch(0, 0);
        }
        Check.badState("hold of one that is MADE", () -> hall.hold(0));
        for (int i = 0; i < 3; i++) {
            hall.start(i);
        }
        Check.badState("hold of one that is WAITING", () -> hall.hold(2));
        Check.badArgument("hold(3)", () -> hall.hold(3));
        Check.badArgument("hold(-1)", () -> hall.hold(-1));
        hall.hold(0);
        stateIs(hall, 0, HELD);
        Check.badState("hold of one that is HELD", () -> hall.hold(0));
        hall.stop(1);
        Check.badState("hold of one that is STOPPING", () -> hall.hold(1));
        for (int i = 0; i < 5; i++) {
            hall.tick();
        }
        stateIs(hall, 0, HELD);
        Check.same("it keeps its token", hall.token(0, 0), 16);
        Check.same("it keeps its unit", hall.unitIs(0, 0), 0);
        Check.badState("hold of one that is over", () -> hall.hold(1));
    }

    private static void restart() {
        BatchHall hall = heating(2);
        hall.batch(0, 0);
        Check.badState("restart of one that is MADE", () -> hall.restart(0));
        hall.start(0);
        Check.badState("restart of one that is RUNNING", () -> hall.restart(0));
        Check.badArgument("restart(1)", () -> hall.restart(1));
        Check.badArgument("restart(-1)", () -> hall.restart(-1));
        hall.tick();
        hall.hold(0);
        hall.tick();
        Check.same("restart", hall.restart(0), RUNNING);
        Check.badState("restart again", () -> hall.restart(0));
        stateIs(hall, 0, RUNNING);
        Check.same("the tick that was left", hall.tick(), 0);
        stateIs(hall, 0, COMPLETE);
        Check.badState("restart of one that is over", () -> hall.restart(0));
    }

    private static void stop() {
        BatchHall hall = released(fork(1, 2), heat(0, 2, 4), heat(1, 1, 3),
                heat(1, 1, 4), join(5), end());
        for (int i = 0; i < 3; i++) {
            hall.batch(0, 0);
        }
        Check.badState("stop of one that is MADE", () -> hall.stop(0));
        for (int i = 0; i < 3; i++) {
            hall.start(i);
        }
        Check.badState("stop of one that is WAITING", () -> hall.stop(2));
        Check.badArgument("stop(3)", () -> hall.stop(3));
        Check.badArgument("stop(-1)", () -> hall.stop(-1));
        Check.same("stop", hall.stop(0), STOPPING);
        Check.badState("stop again", () -> hall.stop(0));
        hall.hold(1);
        Check.same("stop of one that is HELD", hall.stop(1), STOPPING);
        hall.tick();
        Check.same("a phase that has begun goes on", hall.token(0, 0), 17);
        Check.same("the next one doesn't begin", hall.token(0, 1), 3);
        Check.same("nor does that of the one that was HELD", hall.token(1, 1), 3);
        hall.tick();
        stateIs(hall, 0, STOPPED);
        stateIs(hall, 1, STOPPED);
        stateIs(hall, 2, RUNNING);
        Check.same("no tokens", hall.batchIs(0, 3), 0);
        Check.badState("stop of one that is over", () -> hall.stop(0));
    }

    private static void abort() {
        BatchHall hall = heating(3);
        for (int i = 0; i < 6; i++) {
            hall.batch(0, 0);
        }
        Check.badState("abort of one that is MADE", () -> hall.abort(0));
        Check.badArgument("abort(6)", () -> hall.abort(6));
        Check.badArgument("abort(-1)", () -> hall.abort(-1));
        for (int i = 0; i < 6; i++) {
            hall.start(i);
        }
        hall.hold(0);
        hall.stop(1);
        hall.abort(2);
        stateIs(hall, 2, ABORTED);
        stateIs(hall, 3, WAITING);
        hall.abort(0);
        stateIs(hall, 0, ABORTED);
        stateIs(hall, 3, RUNNING);
        hall.abort(1);
        stateIs(hall, 1, ABORTED);
        stateIs(hall, 4, RUNNING);
        hall.abort(3);
        stateIs(hall, 5, RUNNING);
        Check.same("its unit", hall.unitOf(5, 0), 0);
        Check.badState("abort again", () -> hall.abort(3));
        for (int i = 0; i < 4; i++) {
            hall.tick();
        }
        Check.badState("abort of one that is COMPLETE", () -> hall.abort(4));
        Check.same("no tokens", hall.token(3, 0), -1);
    }

    public static void main(String[] args) {
        batch();
        batchIs();
        start();
        unitOf();
        claims();
        claimsInOrderOfStart();
        claimsNotByUnit();
        overAtOnceServesTheNext();
        tick();
        hold();
        restart();
        stop();
        abort();
        Check.end();
    }
}
