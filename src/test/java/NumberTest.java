/** The first and the last number there is, and those beside them, for each promise that takes one. */
public final class NumberTest extends Charts {
    private static BatchHall heating() {
        return running(0, heat(0, 20, 1), end());
    }

    private static void units() {
        Check.about("UNITS 0 .. 5 have a CLASS 0 .. 2, at first 0");
        BatchHall hall = new BatchHall();
        for (int unit = 0; unit < 6; unit++) {
            Check.same("class at first", hall.unitIs(unit, 1), 0);
        }
        for (int unit = 0; unit < 6; unit += 5) {
            for (int group = 2; group >= 0; group--) {
                Check.yes("unit(" + unit + ", " + group + ")", hall.unit(unit, group));
                Check.same("its class", hall.unitIs(unit, 1), group);
            }
        }
        hall.unit(0, 1);
        hall.unit(5, 1);
        for (int unit : outside(6)) {
            Check.no("unit(" + unit + ", 2)", hall.unit(unit, 2));
        }
        for (int group : outside(3)) {
            Check.no("unit(0, " + group + ")", hall.unit(0, group));
            Check.no("unit(5, " + group + ")", hall.unit(5, group));
        }
        int[] classes = {1, 0, 0, 0, 0, 1};
        for (int unit = 0; unit < 6; unit++) {
            Check.same("class of " + unit + " as it was", hall.unitIs(unit, 1), classes[unit]);
        }
    }

    private static void unitsAsked() {
        Check.about("A unit: 0 its owner, 1 class, 2 how many lots, 3 how much in all; NONE if there is none such");
        BatchHall hall = running(0, charge(0, 5, 0, 1), charge(1, 7, 0, 2), heat(0, 20, 3), end());
        ticks(hall, 2);
        int[][] want = {{0, 0, 1, 5}, {0, 0, 1, 7}, {0, 0, 0, 0}, {-1, 0, 0, 0}, {-1, 0, 0, 0}, {-1, 0, 0, 0}};
        for (int unit = 0; unit < 6; unit++) {
            for (int what = 0; what < 4; what++) {
                Check.same("unitIs(" + unit + ", " + what + ")", hall.unitIs(unit, what), want[unit][what]);
            }
            for (int what : outside(4)) {
                Check.same("unitIs(" + unit + ", " + what + ")", hall.unitIs(unit, what), -1);
            }
        }
        for (int unit : outside(6)) {
            for (int what = 0; what < 4; what++) {
                Check.same("unitIs(" + unit + ", " + what + ")", hall.unitIs(unit, what), -1);
            }
        }
    }

    private static void contentsAsked() {
        Check.about("A unit's i-th lot (what 0), its amount (1); NONE if there is none, or for another what.");
        BatchHall hall = running(0, charge(0, 5, 0, 1), charge(0, 7, 0, 2), heat(0, 20, 3), end());
        ticks(hall, 2);
        int[][] want = {{0, 5}, {1, 7}};
        for (int i = 0; i < 2; i++) {
            Check.same("lot " + i, hall.content(0, i, 0), want[i][0]);
            Check.same("amount " + i, hall.content(0, i, 1), want[i][1]);
            for (int what : outside(2)) {
                Check.same("content(0, " + i + ", " + what + ")", hall.content(0, i, what), -1);
            }
        }
        for (int what = 0; what < 2; what++) {
            for (int i : outside(2)) {
                Check.same("content(0, " + i + ", " + what + ")", hall.content(0, i, what), -1);
            }
            for (int unit : outside(6)) {
                Check.same("content(" + unit + ", 0, " + what + ")", hall.content(unit, 0, what), -1);
            }
            Check.same("of an empty one", hall.content(1, 0, what), -1);
            Check.same("of the last one, empty", hall.content(5, 0, what), -1);
            Check.same("of an empty one, below", hall.content(5, -1, what), -1);
        }
    }

    private static void lastUnit() {
        Check.about("UNITS 0 .. 5");
        BatchHall hall = new BatchHall();
        for (int unit = 0; unit < 5; unit++) {
            hall.unit(unit, 1);
        }
        release(hall, 0, ONE_ROLE, charge(0, 5, 0, 1), heat(0, 20, 2), end());
        hall.batch(0, 0);
        hall.start(0);
        hall.tick();
        int[] want = {0, 0, 1, 5};
        for (int what = 0; what < 4; what++) {
            Check.same("unitIs(5, " + what + ")", hall.unitIs(5, what), want[what]);
            Check.same("unitIs(6, " + what + ")", hall.unitIs(6, what), -1);
        }
        contentIs("the last unit", hall, 5, 0, 5);
        Check.same("unitOf", hall.unitOf(0, 0), 5);
        Check.same("its lot", hall.lot(0, 2), 5);
        Check.no("it has an owner", hall.unit(5, 1));
    }

    private static void owners() {
        Check.about("an OWNER (a batch, or NONE)");
        BatchHall hall = new BatchHall();
        release(hall, 0, ONE_ROLE, heat(0, 20, 1), end());
        for (int i = 0; i < 16; i++) {
            hall.batch(0, 0);
        }
        Check.same("none at first", hall.unitIs(0, 0), -1);
        hall.start(15);
        hall.start(0);
        Check.same("the last batch", hall.unitIs(0, 0), 15);
        Check.same("the first batch", hall.unitIs(1, 0), 0);
        Check.no("an owned one, by the class that it has", hall.unit(0, 0));
        Check.no("an owned one", hall.unit(1, 2));
        Check.same("its class as it was", hall.unitIs(1, 1), 0);
        hall.abort(15);
        Check.same("none any more", hall.unitIs(0, 0), -1);
        Check.yes("one given back", hall.unit(0, 2));
    }

    private static void recipes() {
        Check.about("RECIPES 0 .. 3");
        for (int recipe = 0; recipe < 4; recipe += 3) {
            BatchHall hall = new BatchHall();
            Check.yes("role", hall.role(recipe, 0, 0));
            Check.same("step", hall.step(recipe, 1, 0, 1, 0), 0);
            Check.same("step", hall.step(recipe, 9, 0, 0, 0), 1);
            Check.yes("link", hall.link(recipe, 0, 1, 0));
            Check.same("release", hall.release(recipe), 0);
            Check.same("batch", hall.batch(recipe, 1), 0);
            Check.same("its recipe", hall.batchIs(0, 1), recipe);
            for (int other = 0; other < 4; other++) {
                if (other != recipe) {
                    Check.same("another one is empty", hall.release(other), 1);
                }
            }
        }
        BatchHall hall = new BatchHall();
        release(hall, 0, ONE_ROLE, end());
        release(hall, 3, ONE_ROLE, end());
        for (int recipe : outside(4)) {
            Check.no("role of " + recipe, hall.role(recipe, 0, 0));
            Check.same("step of " + recipe, hall.step(recipe, 9, 0, 0, 0), -1);
            Check.no("link of " + recipe, hall.link(recipe, 0, 1, 1));
            Check.badArgument("release of " + recipe, () -> hall.release(recipe));
            Check.badArgument("batch of " + recipe, () -> hall.batch(recipe, 1));
        }
        Check.same("no batch was made", hall.batchIs(0, 0), -1);
    }

    private static void roles() {
        Check.about("a CLASS for each ROLE 0 .. 2, or none (3; at first)");
        for (int role = 0; role < 3; role++) {
            BatchHall hall = new BatchHall();
            hall.unit(4, 1);
            hall.unit(5, 2);
            hall.step(0, 1, role, 1, 0);
            hall.step(0, 9, 0, 0, 0);
            hall.link(0, 0, 1, 0);
            Check.same("none at first", hall.release(0), 1);
            for (int group = 0; group < 3; group++) {
                Check.yes("role " + role + " of class " + group, hall.role(0, role, group));
            }
            for (int other : outside(3)) {
                Check.no("role " + other, hall.role(0, other, 1));
            }
            for (int group : outside(4)) {
                Check.no("role of class " + group, hall.role(0, role, group));
            }
            Check.yes("none", hall.role(0, role, 3));
            Check.same("none again", hall.release(0), 1);
            hall.role(0, role, 2);
            hall.role(0, role, 4);
            hall.role(0, role, -1);
            Check.same("released", hall.release(0), 0);
            hall.batch(0, 0);
            hall.start(0);
            for (int other = 0; other < 3; other++) {
                Check.same("unitOf(0, " + other + ")", hall.unitOf(0, other), other == role ? 5 : -1);
            }
            for (int other : outside(3)) {
                Check.same("unitOf(0, " + other + ")", hall.unitOf(0, other), -1);
            }
        }
    }

    private static void steps() {
        Check.about("STEPS from 0 on, at most 12");
        BatchHall hall = new BatchHall();
        hall.role(0, 0, 0);
        for (int i = 0; i < 12; i++) {
            Check.no("link of step " + i + ", not yet there", hall.link(0, i, 0, 0));
            Check.same("step " + i, hall.step(0, i < 11 ? 1 : 9, 0, 1, 0), i);
            Check.yes("its link", hall.link(0, i, i + 1, 0));
        }
        Check.same("one more", hall.step(0, 9, 0, 0, 0), -1);
        Check.same("one more of a wrong kind", hall.step(0, 10, 0, 0, 0), -1);
        for (int step : outside(12)) {
            Check.no("link of step " + step, hall.link(0, step, 0, 0));
        }
        Check.same("another recipe's first", hall.step(1, 9, 0, 0, 0), 0);
        Check.same("released", hall.release(0), 0);
        hall.batch(0, 0);
        hall.start(0);
        ticks(hall, 10);
        Check.same("the last phase of eleven", hall.token(0, 0), 26);
        Check.same("the twelfth step is END", hall.tick(), 0);
        stateIs(hall, 0, COMPLETE);
    }

    private static void kinds() {
        Check.about("NONE if there is no such recipe or kind, it is released, or has 12.");
        BatchHall hall = new BatchHall();
        for (int kind : outside(10)) {
            Check.same("kind " + kind, hall.step(2, kind, 0, 0, 0), -1);
        }
        for (int kind = 0; kind < 10; kind++) {
            Check.same("kind " + kind, hall.step(2, kind, LOW, FAR, LOW), kind);
        }
        BatchHall done = released(end());
        Check.same("released", done.step(0, 9, 0, 0, 0), -1);
        Check.same("released, and no such kind", done.step(0, 10, 0, 0, 0), -1);
    }

    private static void batches() {
        Check.about("BATCHES 0 .. 15");
        BatchHall hall = new BatchHall();
        release(hall, 0, ONE_ROLE, heat(0, 1, 1), end());
        for (int i = 0; i < 16; i++) {
            Check.same("none yet", hall.batchIs(i, 0), -1);
            Check.same("batch " + i, hall.batch(0, i), i);
            Check.same("its size", hall.batchIs(i, 2), i);
        }
        Check.badState("one more", () -> hall.batch(0, 0));
        Check.same("the first", hall.start(0), RUNNING);
        Check.same("the last", hall.start(15), RUNNING);
        Check.same("its token", hall.token(15, 0), 16);
        Check.same("its unit", hall.unitOf(15, 0), 1);
        Check.yes("measure", hall.measure(15, 0, 1));
        hall.hold(15);
        stateIs(hall, 15, HELD);
        Check.same("restart", hall.restart(15), RUNNING);
        Check.same("stop", hall.stop(15), STOPPING);
        hall.abort(15);
        stateIs(hall, 15, ABORTED);
        Check.badState("one more, though some are over", () -> hall.batch(0, 0));
        noSuchBatch(hall, 16);
        Check.same("the first goes on", hall.tick(), 0);
    }

    private static void noSuchBatch(BatchHall hall, int count) {
        for (int batch : outside(count)) {
            Check.badArgument("start(" + batch + ")", () -> hall.start(batch));
            Check.badArgument("hold(" + batch + ")", () -> hall.hold(batch));
            Check.badArgument("restart(" + batch + ")", () -> hall.restart(batch));
            Check.badArgument("stop(" + batch + ")", () -> hall.stop(batch));
            Check.badArgument("abort(" + batch + ")", () -> hall.abort(batch));
            Check.no("measure(" + batch + ")", hall.measure(batch, 0, 1));
            for (int what = 0; what < 5; what++) {
                Check.same("batchIs(" + batch + ", " + what + ")", hall.batchIs(batch, what), -1);
            }
            Check.same("token(" + batch + ", 0)", hall.token(batch, 0), -1);
            Check.same("unitOf(" + batch + ", 0)", hall.unitOf(batch, 0), -1);
        }
    }

    private static void fewBatches() {
        Check.about("IllegalArgumentException (as below): there is no such batch.");
        noSuchBatch(released(heat(0, 1, 1), end()), 0);
        noSuchBatch(heating(), 1);
    }

    private static void batchesAsked() {
        Check.about("0 its state, 1 recipe, 2 size, 3 how many tokens, 4 how many phases have begun;"
                + " NONE if there is none, or for another what.");
        BatchHall hall = running(1000, fork(1, 2), heat(0, 2, 3), heat(0, 1, 3), join(4), end());
        int[] want = {RUNNING, 0, 1000, 2, 1};
        for (int what = 0; what < 5; what++) {
            Check.same("what " + what, hall.batchIs(0, what), want[what]);
        }
        for (int what : outside(5)) {
            Check.same("what " + what, hall.batchIs(0, what), -1);
        }
    }

    private static void sizes() {
        Check.about("A batch is made, with a size 0 .. 1000: its number.");
        BatchHall hall = released(end());
        for (int size : outside(1001)) {
            Check.badArgument("size " + size, () -> hall.batch(0, size));
        }
        Check.same("size 0", hall.batch(0, 0), 0);
        Check.same("size 1000", hall.batch(0, 1000), 1);
        Check.same("size 0", hall.batchIs(0, 2), 0);
        Check.same("size 1000", hall.batchIs(1, 2), 1000);
        Check.same("no batch more", hall.batchIs(2, 2), -1);
    }

    private static void names() {
        Check.about("A value is measured for a name of a batch");
        for (int name = 0; name < 4; name++) {
            BatchHall hall = running(0, sample(name, 1), end());
            for (int other : outside(4)) {
                Check.no("name " + other, hall.measure(0, other, 1));
            }
            for (int other = 0; other < 4; other++) {
                if (other != name) {
                    Check.yes("another name", hall.measure(0, other, 1));
                }
            }
            Check.same("waits for name " + name, hall.tick(), 1);
            Check.yes("name " + name, hall.measure(0, name, 1));
            Check.same("has it", hall.tick(), 0);
        }
    }

    /** Twelve steps have room for three FORKs, and so for four tokens: no chart has more. */
    private static void tokens() {
        Check.about("The step at which a batch's i-th token is; with 16 more, if that phase has begun; NONE if there"
                + " is none.");
        BatchHall hall = running(0, fork(1, 2), fork(3, 4), fork(5, 6), heat(0, 1, 7), heat(1, 1, 7), heat(2, 1, 8),
                heat(0, 1, 8), join(9), join(9), join(10), heat(11), end());
        int[] want = {19, 21, 20, 6};
        for (int i = 0; i < 4; i++) {
            Check.same("token " + i, hall.token(0, i), want[i]);
        }
        for (int i = 4; i < 9; i++) {
            Check.same("token " + i, hall.token(0, i), -1);
        }
        for (int i : outside(4)) {
            Check.same("token " + i, hall.token(0, i), -1);
        }
        Check.same("how many", hall.batchIs(0, 3), 4);
        Check.same("how many have begun", hall.batchIs(0, 4), 3);
        hall.tick();
        tokensAre("one JOIN is passed", hall, 9, 8, 22);
        hall.tick();
        tokensAre("all are", hall, 26);
        hall.tick();
        tokensAre("of one that is over", hall);
        hall.batch(0, 0);
        Check.same("of one that is MADE", hall.token(1, 0), -1);
    }

    private static void lots() {
        Check.about("LOTS are numbered from 0 as they are made");
        BatchHall hall = running(0, charge(1, 5, 0, 1), charge(1, 7, 0, 2), react(1, 1, 3), heat(0, 20, 4), end());
        Check.same("how many", hall.lots(), 1);
        ticks(hall, 3);
        Check.same("how many", hall.lots(), 3);
        int[][] want = {{0, 0, 0, 0, 1}, {0, 1, 0, 0, 1}, {0, 2, 12, 2, 0}};
        for (int lot = 0; lot < 3; lot++) {
            for (int what = 0; what < 5; what++) {
                Check.same("lot(" + lot + ", " + what + ")", hall.lot(lot, what), want[lot][what]);
            }
            for (int what : outside(5)) {
                Check.same("lot(" + lot + ", " + what + ")", hall.lot(lot, what), -1);
            }
        }
        noSuchLot(hall, 3);
        noSuchLot(new BatchHall(), 0);
    }

    private static void noSuchLot(BatchHall hall, int count) {
        for (int lot : outside(count)) {
            for (int what = 0; what < 5; what++) {
                Check.same("lot(" + lot + ", " + what + ")", hall.lot(lot, what), -1);
            }
            for (int what = 0; what < 2; what++) {
                Check.same("from(" + lot + ", 0, " + what + ")", hall.from(lot, 0, what), -1);
            }
            Check.same("origin of " + lot, hall.trace(lot, false, 0), -1);
            Check.same("outcome of " + lot, hall.trace(lot, true, 0), -1);
        }
    }

    private static void partsAsked() {
        Check.about("The i-th lot that went into one (what 0), with what amount (1), in the order of the content;"
                + " NONE.");
        BatchHall hall = running(0, charge(1, 5, 0, 1), charge(1, 7, 0, 2), react(1, 1, 3), heat(0, 20, 4), end());
        ticks(hall, 3);
        int[][] want = {{0, 5}, {1, 7}};
        for (int i = 0; i < 2; i++) {
            Check.same("from(2, " + i + ", 0)", hall.from(2, i, 0), want[i][0]);
            Check.same("from(2, " + i + ", 1)", hall.from(2, i, 1), want[i][1]);
            for (int what : outside(2)) {
                Check.same("from(2, " + i + ", " + what + ")", hall.from(2, i, what), -1);
            }
        }
        for (int what = 0; what < 2; what++) {
            for (int i : outside(2)) {
                Check.same("from(2, " + i + ", " + what + ")", hall.from(2, i, what), -1);
            }
            Check.same("into a CHARGE's went none", hall.from(0, 0, what), -1);
            Check.same("nor into the other's", hall.from(1, 0, what), -1);
        }
    }

    private static void tracesAsked() {
        Check.about("The i-th of a lot's ORIGINS, or OUTCOMES, by number; NONE if there is none.");
        BatchHall hall = running(0, charge(1, 5, 0, 1), charge(1, 7, 0, 2), react(1, 1, 3), react(1, 1, 4),
                heat(0, 20, 5), end());
        ticks(hall, 4);
        int[][] origins = {{}, {}, {0, 1}, {0, 1, 2}};
        int[][] outcomes = {{2, 3}, {2, 3}, {3}, {}};
        for (int lot = 0; lot < 4; lot++) {
            traceIs(hall, lot, false, origins[lot]);
            traceIs(hall, lot, true, outcomes[lot]);
        }
    }

    private static void traceIs(BatchHall hall, int lot, boolean outcomes, int[] want) {
        String what = "trace(" + lot + ", " + outcomes + ", ";
        for (int i = 0; i < want.length; i++) {
            Check.same(what + i + ")", hall.trace(lot, outcomes, i), want[i]);
        }
        for (int i : outside(want.length)) {
            Check.same(what + i + ")", hall.trace(lot, outcomes, i), -1);
        }
    }

    public static void main(String[] args) {
        units();
        unitsAsked();
        contentsAsked();
        lastUnit();
        owners();
        recipes();
        roles();
        steps();
        kinds();
        batches();
        fewBatches();
        batchesAsked();
        sizes();
        names();
        tokens();
        lots();
        partsAsked();
        tracesAsked();
        Check.end();
    }
}
