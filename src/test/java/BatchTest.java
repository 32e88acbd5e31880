/** Promises 8 to 13 and 15: what becomes of batches that are started, held, restarted, stopped and aborted. */
public final class BatchTest extends Charts {
    private static BatchHall heating(int ticks) {
        return released(heat(0, ticks, 1), end());
    }

    private static void batchIs() {
        Check.about("A batch: 0 its state, 1 recipe, 2 size, 3 how many tokens, 4 how many phases have begun");
        BatchHall hall = released(fork(1, 2), heat(0, 2, 3), heat(0, 1, 3),
                join(4), end());
        release(hall, 2, NO_ROLES, end());
        hall.batch(2, 7);
        hall.batch(0, 8);
        Check.same("recipe", hall.batchIs(0, 1), 2);
        Check.same("size", hall.batchIs(1, 2), 8);
        Check.same("tokens of one that is MADE", hall.batchIs(1, 3), 0);
        hall.start(1);
        Check.same("tokens", hall.batchIs(1, 3), 2);
        Check.same("phases that have begun", hall.batchIs(1, 4), 1);
        Check.same("another what", hall.batchIs(1, 5), -1);
        Check.same("another what", hall.batchIs(1, -1), -1);
        Check.same("no such batch", hall.batchIs(2, 0), -1);
        Check.same("no such batch", hall.batchIs(-1, 0), -1);
        hall.abort(1);
        Check.same("tokens of one that is over", hall.batchIs(1, 3), 0);
        Check.same("phases of one that is over", hall.batchIs(1, 4), 0);
    }

    private static void start() {
        Check.about("A batch that is MADE is WAITING, or RUNNING at once: its state.");
        BatchHall hall = heating(2);
        release(hall, 1, NO_ROLES, end());
        for (int i = 0; i < 3; i++) {
            hall.batch(0, 0);
        }
        hall.batch(1, 0);
        stateIs(hall, 0, MADE);
        Check.same("gets its units", hall.start(0), RUNNING);
        Check.same("gets its units", hall.start(1), RUNNING);
        Check.same("waits", hall.start(2), WAITING);
        Check.same("needs nothing, and is over at once", hall.start(3), COMPLETE);
        Check.badArgument("start(4)", () -> hall.start(4));
        Check.badArgument("start(-1)", () -> hall.start(-1));
        for (int i = 0; i < 4; i++) {
            int batch = i;
            Check.badState("start again", () -> hall.start(batch));
        }
    }

    private static void tick() {
        Check.about("how many batches are RUNNING, HELD or STOPPING behind it");
        BatchHall hall = heating(2);
        for (int i = 0; i < 5; i++) {
            hall.batch(0, 0);
        }
        Check.same("none is busy", hall.tick(), 0);
        for (int i = 0; i < 4; i++) {
            hall.start(i);
        }
        hall.hold(0);
        hall.stop(1);
        Check.same("HELD and STOPPING count, WAITING doesn't", hall.tick(), 2);
        stateIs(hall, 1, STOPPING);
        Check.same("1 is STOPPED, 2 goes on in its place", hall.tick(), 2);
        stateIs(hall, 1, STOPPED);
        stateIs(hall, 2, RUNNING);
        Check.same("2 went on in the tick before", hall.tick(), 2);
        stateIs(hall, 2, COMPLETE);
        stateIs(hall, 3, RUNNING);
        Check.same("so did 3", hall.tick(), 1);
        stateIs(hall, 3, COMPLETE);
        stateIs(hall, 4, MADE);
        Check.same("the one that is HELD", hall.tick(), 1);
        stateIs(hall, 0, HELD);
    }

    private static void hold() {
        Check.about("A RUNNING batch is HELD (its phases rest; what is measured counts).");
        BatchHall hall = heating(2);
        for (int i = 0; i < 3; i++) {
            hall.batch(0, 0);
        }
        Check.badState("hold of one that is MADE", () -> hall.hold(0));
        for (int i = 0; i < 3; i++) {
            hall.start(i);
        }
        Check.badState("hold of one that is WAITING", () -> hall.hold(2));
        Check.badArgument("hold(3)", () -> hall.hold(3));
        Check.badArgument("hold(-1)", () -> hall.hold(-1));
        hall.hold(0);
        stateIs(hall, 0, HELD);
        Check.badState("hold of one that is HELD", () -> hall.hold(0));
        hall.stop(1);
        Check.badState("hold of one that is STOPPING", () -> hall.hold(1));
        for (int i = 0; i < 5; i++) {
            hall.tick();
        }
        stateIs(hall, 0, HELD);
        Check.same("it keeps its token", hall.token(0, 0), 16);
        Check.same("it keeps its unit", hall.unitIs(0, 0), 0);
        Check.badState("hold of one that is over", () -> hall.hold(1));
    }

    private static void restart() {
        Check.about("A HELD batch is RUNNING again (its tokens stay till the next tick): its state.");
        BatchHall hall = heating(2);
        hall.batch(0, 0);
        Check.badState("restart of one that is MADE", () -> hall.restart(0));
        hall.start(0);
        Check.badState("restart of one that is RUNNING", () -> hall.restart(0));
        Check.badArgument("restart(1)", () -> hall.restart(1));
        Check.badArgument("restart(-1)", () -> hall.restart(-1));
        hall.tick();
        hall.hold(0);
        hall.tick();
        Check.same("restart", hall.restart(0), RUNNING);
        Check.badState("restart again", () -> hall.restart(0));
        stateIs(hall, 0, RUNNING);
        Check.same("the tick that was left", hall.tick(), 0);
        stateIs(hall, 0, COMPLETE);
        Check.badState("restart of one that is over", () -> hall.restart(0));
    }

    private static void stop() {
        Check.about("A RUNNING or HELD batch is STOPPING: only phases that have begun go on");
        BatchHall hall = released(fork(1, 2), heat(0, 2, 4), heat(1, 1, 3),
                heat(1, 1, 4), join(5), end());
        for (int i = 0; i < 3; i++) {
            hall.batch(0, 0);
        }
        Check.badState("stop of one that is MADE", () -> hall.stop(0));
        for (int i = 0; i < 3; i++) {
            hall.start(i);
        }
        Check.badState("stop of one that is WAITING", () -> hall.stop(2));
        Check.badArgument("stop(3)", () -> hall.stop(3));
        Check.badArgument("stop(-1)", () -> hall.stop(-1));
        Check.same("stop", hall.stop(0), STOPPING);
        Check.badState("stop again", () -> hall.stop(0));
        hall.hold(1);
        Check.same("stop of one that is HELD", hall.stop(1), STOPPING);
        hall.tick();
        Check.same("a phase that has begun goes on", hall.token(0, 0), 17);
        Check.same("the next one doesn't begin", hall.token(0, 1), 3);
        Check.same("nor does that of the one that was HELD", hall.token(1, 1), 3);
        hall.tick();
        stateIs(hall, 0, STOPPED);
        stateIs(hall, 1, STOPPED);
        stateIs(hall, 2, RUNNING);
        Check.same("no tokens", hall.batchIs(0, 3), 0);
        Check.badState("stop of one that is over", () -> hall.stop(0));
    }

    private static void abort() {
        Check.about("A batch is ABORTED.");
        BatchHall hall = heating(3);
        for (int i = 0; i < 6; i++) {
            hall.batch(0, 0);
        }
        Check.badState("abort of one that is MADE", () -> hall.abort(0));
        Check.badArgument("abort(6)", () -> hall.abort(6));
        Check.badArgument("abort(-1)", () -> hall.abort(-1));
        for (int i = 0; i < 6; i++) {
            hall.start(i);
        }
        hall.hold(0);
        hall.stop(1);
        hall.abort(2);
        stateIs(hall, 2, ABORTED);
        stateIs(hall, 3, WAITING);
        hall.abort(0);
        stateIs(hall, 0, ABORTED);
        stateIs(hall, 3, RUNNING);
        hall.abort(1);
        stateIs(hall, 1, ABORTED);
        stateIs(hall, 4, RUNNING);
        hall.abort(3);
        stateIs(hall, 5, RUNNING);
        Check.same("its unit", hall.unitOf(5, 0), 0);
        Check.badState("abort again", () -> hall.abort(3));
        for (int i = 0; i < 4; i++) {
            hall.tick();
        }
        Check.badState("abort of one that is COMPLETE", () -> hall.abort(4));
        Check.same("no tokens", hall.token(3, 0), -1);
    }

    public static void main(String[] args) {
        batchIs();
        start();
        tick();
        hold();
        restart();
        stop();
        abort();
        Check.end();
    }
}
