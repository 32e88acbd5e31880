import java.util.function.Consumer;

/** Promises 6 to 14 in each of the eight states: what is thrown, and that what is refused changes nothing. */
public final class StateTest extends Charts {
    /** The batch of eightStates() that is in a state. */
    private static final int[] BATCH_IN = {7, 6, 5, 4, 3, 1, 2, 0};

    /** A hall whose units 0 to 2 are of class 1, and whose eight batches are in the eight states. */
    private static BatchHall eightStates() {
        BatchHall hall = new BatchHall();
        for (int unit = 0; unit < 3; unit++) {
            hall.unit(unit, 1);
        }
        release(hall, 0, new int[] {1, 3, 3}, charge(0, 15, 0, 1), sample(0, 2), heat(0, 2, 3), end());
        for (int i = 0; i < 8; i++) {
            hall.batch(0, 10 * i);
        }
        startAll(hall, 0, 2);
        ticks(hall, 2);
        hall.measure(0, 0, 1);
        hall.stop(1);
        hall.measure(1, 0, 1);
        hall.abort(2);
        ticks(hall, 3);
        startAll(hall, 3, 6);
        hall.stop(3);
        hall.hold(4);
        hall.tick();
        return hall;
    }

    private static void startAll(BatchHall hall, int first, int last) {
        for (int i = first; i <= last; i++) {
            hall.start(i);
        }
    }

    private static void theEightStates() {
        Check.about("A STATE: 0 MADE, 1 WAITING, 2 RUNNING, 3 HELD, 4 STOPPING, 5 STOPPED, 6 ABORTED, 7 COMPLETE");
        BatchHall hall = eightStates();
        for (int state = 0; state < 8; state++) {
            stateIs(hall, BATCH_IN[state], state);
        }
    }

    private static void whatEachHas() {
        Check.about("It owns them, is RUNNING, and has a token at step 0.");
        BatchHall hall = eightStates();
        for (int state = 0; state < 8; state++) {
            int batch = BATCH_IN[state];
            boolean busy = state >= RUNNING && state <= STOPPING;
            Check.same("recipe in " + state, hall.batchIs(batch, 1), 0);
            Check.same("size in " + state, hall.batchIs(batch, 2), 10 * batch);
            Check.same("tokens in " + state, hall.batchIs(batch, 3), busy ? 1 : 0);
            Check.same("phases in " + state, hall.batchIs(batch, 4), busy ? 1 : 0);
            Check.same("token in " + state, hall.token(batch, 0), busy ? 16 : -1);
            Check.same("unit in " + state, hall.unitOf(batch, 0), busy ? batch - 3 : -1);
            Check.same("no unit for role 1 in " + state, hall.unitOf(batch, 1), -1);
        }
        Check.about("how many batches are RUNNING, HELD or STOPPING behind it");
        Check.same("3 is STOPPED, and 6 has its unit", hall.tick(), 3);
        int[] then = {COMPLETE, STOPPED, ABORTED, STOPPED, HELD, RUNNING, RUNNING, MADE};
        for (int batch = 0; batch < 8; batch++) {
            stateIs(hall, batch, then[batch]);
        }
    }

    private static void start() {
        Check.about("A batch that is MADE is WAITING, or RUNNING at once: its state. .. IllegalStateException: it isn't"
                + " MADE.");
        for (int state = 0; state < 8; state++) {
            BatchHall hall = eightStates();
            int batch = BATCH_IN[state];
            if (state == MADE) {
                Check.same("start", hall.start(batch), WAITING);
                stateIs(hall, batch, WAITING);
            } else {
                refused("start in " + state, x -> x.start(batch));
            }
        }
        BatchHall hall = eightStates();
        hall.abort(6);
        hall.abort(5);
        Check.same("RUNNING at once", hall.start(7), RUNNING);
        stateIs(hall, 7, RUNNING);
    }

    private static void hold() {
        Check.about("A RUNNING batch is HELD .. IllegalStateException: it isn't RUNNING.");
        for (int state = 0; state < 8; state++) {
            BatchHall hall = eightStates();
            int batch = BATCH_IN[state];
            if (state == RUNNING) {
                hall.hold(batch);
                stateIs(hall, batch, HELD);
            } else {
                refused("hold in " + state, x -> x.hold(batch));
            }
        }
    }

    private static void restart() {
        Check.about("A HELD batch is RUNNING again .. IllegalStateException: it isn't HELD.");
        for (int state = 0; state < 8; state++) {
            BatchHall hall = eightStates();
            int batch = BATCH_IN[state];
            if (state == HELD) {
                Check.same("restart", hall.restart(batch), RUNNING);
                stateIs(hall, batch, RUNNING);
            } else {
                refused("restart in " + state, x -> x.restart(batch));
            }
        }
    }

    private static void stop() {
        Check.about("A RUNNING or HELD batch is STOPPING .. IllegalStateException: it is neither.");
        for (int state = 0; state < 8; state++) {
            BatchHall hall = eightStates();
            int batch = BATCH_IN[state];
            if (state == RUNNING || state == HELD) {
                Check.same("stop in " + state, hall.stop(batch), STOPPING);
                stateIs(hall, batch, STOPPING);
                stateIs(hall, 6, WAITING);
            } else {
                refused("stop in " + state, x -> x.stop(batch));
            }
        }
    }

    private static void abort() {
        Check.about("A batch is ABORTED. IllegalStateException: it is MADE, or over (STOPPED, ABORTED, COMPLETE).");
        for (int state = 0; state < 8; state++) {
            BatchHall hall = eightStates();
            int batch = BATCH_IN[state];
            if (state >= WAITING && state <= STOPPING) {
                hall.abort(batch);
                stateIs(hall, batch, ABORTED);
                stateIs(hall, 6, state == WAITING ? ABORTED : RUNNING);
            } else {
                refused("abort in " + state, x -> x.abort(batch));
            }
        }
    }

    private static void measure() {
        Check.about("A value is measured for a name of a batch (also of one that is MADE or WAITING); false if there is"
                + " none such, or it is over.");
        for (int state = 0; state < 8; state++) {
            int batch = BATCH_IN[state];
            for (int name = 0; name < 4; name++) {
                Check.same("measure in " + state, eightStates().measure(batch, name, 3) ? 1 : 0,
                        state <= STOPPING ? 1 : 0);
            }
            if (state > STOPPING) {
                leavesNoTrace("measure in " + state, x -> x.measure(batch, 0, 3));
            }
        }
    }

    private static void refused(String what, Consumer<BatchHall> call) {
        BatchHall hall = eightStates();
        Check.badState(what, () -> call.accept(hall));
        leavesNoTrace(what, call);
    }

    /** Two halls with the same calls, but that one has the refused call, too: they are alike, then and later. */
    private static void leavesNoTrace(String what, Consumer<BatchHall> call) {
        BatchHall one = eightStates();
        BatchHall two = eightStates();
        callRefused(one, call);
        Check.sameText(what + ", then", Snapshot.of(one), Snapshot.of(two));
        for (int i = 0; i < 8; i++) {
            goOn(one, i);
            goOn(two, i);
            Check.same(what + ", tick " + i, one.tick(), two.tick());
        }
        Check.sameText(what + ", later", Snapshot.of(one), Snapshot.of(two));
    }

    private static void callRefused(BatchHall hall, Consumer<BatchHall> call) {
        try {
            call.accept(hall);
        } catch (IllegalArgumentException | IllegalStateException e) {
            // Which one it is is looked at elsewhere.
            return;
        }
    }

    private static void goOn(BatchHall hall, int i) {
        if (i == 1) {
            hall.restart(4);
        } else if (i == 2) {
            hall.start(7);
            hall.measure(5, 0, 2);
        } else if (i == 3) {
            hall.measure(3, 0, 2);
            hall.measure(4, 0, 2);
        }
    }

    private static void batchExceptions() {
        Check.about("IllegalArgumentException: there is no such recipe or size. IllegalStateException: it isn't"
                + " released, or there are 16.");
        BatchHall hall = released(end());
        Check.badState("not released", () -> hall.batch(1, 0));
        Check.badState("not released", () -> hall.batch(3, 1000));
        for (int recipe : outside(4)) {
            Check.badArgument("no such recipe", () -> hall.batch(recipe, 0));
            for (int size : outside(1001)) {
                Check.badArgument("no such recipe, nor size", () -> hall.batch(recipe, size));
            }
        }
        for (int size : outside(1001)) {
            Check.badArgument("no such size", () -> hall.batch(0, size));
            Check.badArgument("no such size, and not released", () -> hall.batch(1, size));
        }
        for (int i = 0; i < 16; i++) {
            Check.same("batch " + i, hall.batch(0, 0), i);
        }
        Check.badState("there are 16", () -> hall.batch(0, 0));
        Check.badState("there are 16, and not released", () -> hall.batch(1, 0));
        for (int beyond : outside(1001)) {
            Check.badArgument("there are 16, and no such size", () -> hall.batch(0, beyond));
            Check.badArgument("there are 16, and no such recipe", () -> hall.batch(beyond, 0));
            Check.badArgument("not released, 16, and no such size", () -> hall.batch(2, beyond));
        }
        Check.same("none was made", hall.batchIs(16, 0), -1);
    }

    private static void refusedNumbers() {
        Check.about("IllegalArgumentException: there is no such");
        for (int beyond : outside(8)) {
            leavesNoTrace("start(" + beyond + ")", x -> x.start(beyond));
            leavesNoTrace("hold(" + beyond + ")", x -> x.hold(beyond));
            leavesNoTrace("restart(" + beyond + ")", x -> x.restart(beyond));
            leavesNoTrace("stop(" + beyond + ")", x -> x.stop(beyond));
            leavesNoTrace("abort(" + beyond + ")", x -> x.abort(beyond));
            leavesNoTrace("measure(" + beyond + ", 0, 1)", x -> x.measure(beyond, 0, 1));
            leavesNoTrace("measure(3, " + beyond + ", 1)", x -> x.measure(3, beyond, 1));
            leavesNoTrace("batch(" + beyond + ", 0)", x -> x.batch(beyond, 0));
            leavesNoTrace("unit(" + beyond + ", 2)", x -> x.unit(beyond, 2));
            leavesNoTrace("unit(5, " + beyond + ")", x -> x.unit(5, beyond));
            leavesNoTrace("release(" + beyond + ")", x -> x.release(beyond));
        }
        leavesNoTrace("batch(0, 1001)", x -> x.batch(0, 1001));
        leavesNoTrace("batch(0, -1)", x -> x.batch(0, -1));
        leavesNoTrace("batch of one that isn't released", x -> x.batch(1, 0));
        leavesNoTrace("an owned unit", x -> x.unit(0, 0));
        leavesNoTrace("release again", x -> x.release(0));
        leavesNoTrace("release of an empty one", x -> x.release(1));
        leavesNoTrace("a released one's role", x -> x.role(0, 0, 0));
        leavesNoTrace("a released one's role, to none", x -> x.role(0, 0, 3));
        leavesNoTrace("a released one's step", x -> x.step(0, 1, 0, 1, 0));
        leavesNoTrace("a released one's link", x -> x.link(0, 0, 3, 3));
    }

    /** What is refused while a recipe is edited leaves it as it was. */
    private static void refusedEdits() {
        Check.about("NONE if there is no such recipe or kind, it is released, or has 12.");
        BatchHall hall = write(0, heat(0, 2, 1), end());
        for (int beyond : outside(4)) {
            hall.role(beyond, 0, 3);
            hall.role(0, beyond, 3);
            hall.role(0, 0, beyond);
            hall.step(beyond, 1, 0, 1, 0);
            hall.link(beyond, 0, 0, 0);
            hall.link(0, beyond, 0, 0);
        }
        for (int beyond : outside(10)) {
            hall.step(0, beyond, 0, 0, 0);
        }
        Check.same("no step came", hall.step(0, 9, 0, 0, 0), 2);
        Check.same("which can't be come to", hall.release(0), 2);
        hall.link(0, 0, 2, 0);
        Check.same("nor can the other now", hall.release(0), 2);
        hall.step(1, 9, 0, 0, 0);
        Check.same("the next recipe is as it was", hall.release(1), 0);
    }

    public static void main(String[] args) {
        theEightStates();
        whatEachHas();
        start();
        hold();
        restart();
        stop();
        abort();
        measure();
        batchExceptions();
        refusedNumbers();
        refusedEdits();
        Check.end();
    }
}
