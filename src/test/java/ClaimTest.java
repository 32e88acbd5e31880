/** CLAIMS (promises 8, 9, 12, 13, 17): who gets which units, when, and who goes on in the same tick. */
public final class ClaimTest extends Charts {
    /** Units 0 to 2 are of class 0, 3 and 4 of class 1, 5 of class 2. */
    private static BatchHall threeClasses() {
        BatchHall hall = new BatchHall();
        hall.unit(3, 1);
        hall.unit(4, 1);
        hall.unit(5, 2);
        release(hall, 0, new int[] {0, 0, 3}, heat(0, 2, 1), end());
        release(hall, 1, new int[] {0, 1, 3}, heat(0, 2, 1), end());
        release(hall, 2, new int[] {1, 3, 3}, heat(0, 2, 1), end());
        release(hall, 3, new int[] {3, 3, 2}, heat(2, 2, 1), end());
        return hall;
    }

    /** Unit 5 alone is of class 2: recipe 0 heats in it so many ticks, recipe 1 is over at once, 2 needs no unit. */
    private static BatchHall oneUnit(int ticks) {
        BatchHall hall = new BatchHall();
        hall.unit(5, 2);
        release(hall, 0, new int[] {2, 3, 3}, heat(0, ticks, 1), end());
        release(hall, 1, new int[] {2, 3, 3}, end());
        release(hall, 2, NO_ROLES, end());
        return hall;
    }

    private static void justEnough() {
        Check.about("and there are enough");
        for (int roles = 1; roles <= 3; roles++) {
            for (int lacking = 0; lacking <= 1; lacking++) {
                BatchHall hall = new BatchHall();
                int[] groups = {1, roles > 1 ? 1 : 3, roles > 2 ? 1 : 3};
                for (int unit = 0; unit < roles; unit++) {
                    hall.unit(unit, 1);
                }
                release(hall, 0, groups, heat(1), end());
                hall.unit(0, lacking == 1 ? 2 : 1);
                hall.batch(0, 0);
                String what = roles + " roles, " + (roles - lacking) + " units";
                Check.same(what, hall.start(0), lacking == 1 ? WAITING : RUNNING);
                Check.same(what + ", the last one", hall.unitIs(roles - 1, 0), lacking == 1 ? -1 : 0);
            }
        }
    }

    private static void enoughOfEach() {
        Check.about("needs for each role with a class a unit without an owner");
        BatchHall hall = threeClasses();
        makeBatches(hall, 2, 2, 1, 3, 3, 0);
        Check.same("one of class 1", hall.start(0), RUNNING);
        Check.same("the other of class 1", hall.start(1), RUNNING);
        Check.same("class 0 is there, class 1 isn't", hall.start(2), WAITING);
        Check.same("it has no unit, not even of class 0", hall.unitOf(2, 0), -1);
        Check.same("class 2", hall.start(3), RUNNING);
        Check.same("no more of class 2", hall.start(4), WAITING);
        Check.same("class 0 is wanted by one before", hall.start(5), WAITING);
        hall.abort(1);
        stateIs(hall, 2, RUNNING);
        stateIs(hall, 4, WAITING);
        stateIs(hall, 5, RUNNING);
        Check.same("all of class 0 are owned", hall.unitIs(0, 0) + hall.unitIs(1, 0) + hall.unitIs(2, 0), 2 + 5 + 5);
    }

    private static void leastNumber() {
        Check.about("role by role the least number");
        BatchHall hall = new BatchHall();
        hall.unit(0, 1);
        hall.unit(4, 1);
        release(hall, 0, new int[] {1, 0, 1}, heat(0, 1, 1), end());
        release(hall, 1, new int[] {3, 0, 0}, heat(2, 5, 1), end());
        makeBatches(hall, 0, 1);
        Check.same("of one that is MADE", hall.unitOf(0, 0), -1);
        hall.start(0);
        hall.start(1);
        int[][] want = {{0, 1, 4}, {-1, 2, 3}};
        for (int batch = 0; batch < 2; batch++) {
            for (int role = 0; role < 3; role++) {
                Check.same("unitOf(" + batch + ", " + role + ")", hall.unitOf(batch, role), want[batch][role]);
            }
        }
        int[] owners = {0, 0, 1, 1, 0, -1};
        for (int unit = 0; unit < 6; unit++) {
            Check.same("owner of " + unit, hall.unitIs(unit, 0), owners[unit]);
        }
        hall.tick();
        Check.same("given back", hall.unitOf(0, 0), -1);
        Check.same("no owner", hall.unitIs(4, 0), -1);
        Check.same("still owned", hall.unitIs(2, 0), 1);
    }

    private static void runningAtOnce() {
        Check.about("It owns them, is RUNNING, and has a token at step 0.");
        BatchHall hall = oneUnit(2);
        makeBatches(hall, 0, 0);
        Check.same("start", hall.start(0), RUNNING);
        tokensAre("which has begun", hall, 16);
        Check.same("its unit", hall.unitOf(0, 0), 5);
        Check.same("the next one", hall.start(1), WAITING);
        Check.same("no tokens", hall.batchIs(1, 3), 0);
        Check.same("no token", hall.token(1, 0), -1);
        Check.same("no unit", hall.unitOf(1, 0), -1);
        hall.abort(0);
        Check.same("then it has one", hall.token(1, 0), 16);
        Check.same("and the unit", hall.unitIs(5, 0), 1);
    }

    private static void noneBefore() {
        Check.about("one gets its units if none that was started before it, and is WAITING still, needs a class that it"
                + " needs, too");
        BatchHall hall = threeClasses();
        makeBatches(hall, 0, 0, 1, 2, 3);
        Check.same("two of class 0", hall.start(0), RUNNING);
        Check.same("one of class 0 is too few", hall.start(1), WAITING);
        Check.same("one is enough, but wanted by one before", hall.start(2), WAITING);
        Check.same("class 1 is wanted by one before", hall.start(3), WAITING);
        Check.same("class 2 isn't", hall.start(4), RUNNING);
        hall.abort(1);
        stateIs(hall, 2, RUNNING);
        stateIs(hall, 3, RUNNING);
        Check.same("role 0 has the least left", hall.unitOf(2, 0), 2);
        Check.same("role 1 of class 1", hall.unitOf(2, 1), 3);
        Check.same("the one behind it", hall.unitOf(3, 0), 4);
    }

    private static void notBefore() {
        Check.about("one gets its units if none that was started before it, and is WAITING still");
        BatchHall hall = threeClasses();
        makeBatches(hall, 0, 0, 2, 2);
        hall.start(0);
        hall.start(1);
        Check.same("one that waits for another class", hall.start(2), RUNNING);
        hall.abort(1);
        hall.batch(2, 0);
        Check.same("one that is MADE before", hall.start(4), RUNNING);
        Check.same("one behind those that have theirs", hall.start(3), WAITING);
        hall.abort(2);
        stateIs(hall, 3, RUNNING);
    }

    private static void inOrderOfStart() {
        Check.about("the batches are gone through in the order in which they were started");
        BatchHall hall = oneUnit(2);
        makeBatches(hall, 0, 0, 0, 0);
        int[] order = {2, 3, 0, 1};
        for (int batch : order) {
            hall.start(batch);
        }
        for (int i = 0; i < 4; i++) {
            for (int j = 0; j < 4; j++) {
                stateIs(hall, order[j], j < i ? ABORTED : j == i ? RUNNING : WAITING);
            }
            hall.abort(order[i]);
        }
    }

    private static void noUnitNeeded() {
        Check.about("for each role with a class");
        BatchHall hall = oneUnit(2);
        makeBatches(hall, 0, 0, 2);
        hall.start(0);
        hall.start(1);
        Check.same("one that needs none waits for none", hall.start(2), COMPLETE);
        stateIs(hall, 1, WAITING);
        for (int role = 0; role < 3; role++) {
            Check.same("it owns none", hall.unitOf(2, role), -1);
        }
        Check.same("nor counts", hall.tick(), 1);
    }

    private static void overAtOnce() {
        Check.about("END: the batch is COMPLETE");
        BatchHall hall = oneUnit(2);
        makeBatches(hall, 1, 0, 1, 1, 0);
        Check.same("over at once", hall.start(0), COMPLETE);
        Check.same("its unit is given back", hall.unitIs(5, 0), -1);
        Check.same("so there is one", hall.start(1), RUNNING);
        Check.same("it waits like others", hall.start(2), WAITING);
        Check.same("it waits like others", hall.start(3), WAITING);
        Check.same("and so does the one behind them", hall.start(4), WAITING);
        hall.abort(1);
        stateIs(hall, 2, COMPLETE);
        stateIs(hall, 3, COMPLETE);
        stateIs(hall, 4, RUNNING);
        Check.same("its unit", hall.unitIs(5, 0), 4);
    }

    /** A batch for the only unit runs, another waits; then comes what gives the unit back. */
    private static BatchHall oneRunsOneWaits() {
        BatchHall hall = oneUnit(1);
        makeBatches(hall, 0, 0);
        hall.start(0);
        hall.start(1);
        stateIs(hall, 1, WAITING);
        return hall;
    }

    private static void givenBack() {
        Check.about("That is done whenever a batch is started, units are given back, or one that was WAITING is"
                + " ABORTED.");
        BatchHall complete = oneRunsOneWaits();
        complete.tick();
        stateIs(complete, 0, COMPLETE);
        stateIs(complete, 1, COMPLETE);
        BatchHall stopped = oneRunsOneWaits();
        stopped.stop(0);
        stateIs(stopped, 1, WAITING);
        stopped.tick();
        stateIs(stopped, 0, STOPPED);
        stateIs(stopped, 1, COMPLETE);
        BatchHall aborted = oneRunsOneWaits();
        aborted.abort(0);
        stateIs(aborted, 1, RUNNING);
        BatchHall held = oneRunsOneWaits();
        held.hold(0);
        held.tick();
        stateIs(held, 1, WAITING);
        held.abort(0);
        stateIs(held, 1, RUNNING);
        BatchHall stopping = oneRunsOneWaits();
        stopping.stop(0);
        stopping.abort(0);
        stateIs(stopping, 1, RUNNING);
    }

    private static void waitingIsAborted() {
        Check.about("or one that was WAITING is ABORTED");
        BatchHall hall = threeClasses();
        makeBatches(hall, 0, 0, 1, 0);
        hall.start(0);
        hall.start(1);
        hall.start(2);
        hall.start(3);
        hall.abort(2);
        stateIs(hall, 1, WAITING);
        stateIs(hall, 3, WAITING);
        hall.abort(1);
        stateIs(hall, 3, WAITING);
        Check.same("one of class 0 is free", hall.unitIs(2, 0), -1);
        hall.batch(1, 0);
        Check.same("but 3 waits for it still", hall.start(4), WAITING);
        hall.abort(3);
        stateIs(hall, 4, RUNNING);
        Check.same("it has it", hall.unitIs(2, 0), 4);
    }

    private static void notByUnit() {
        Check.about("That is done whenever a batch is started, units are given back, or one that was WAITING is"
                + " ABORTED.");
        BatchHall hall = threeClasses();
        makeBatches(hall, 3, 3, 2);
        hall.start(0);
        hall.start(1);
        hall.unit(0, 2);
        stateIs(hall, 1, WAITING);
        hall.tick();
        stateIs(hall, 1, WAITING);
        Check.same("another one's start serves it", hall.start(2), RUNNING);
        stateIs(hall, 1, RUNNING);
        Check.same("its unit", hall.unitOf(1, 2), 0);
    }

    private static void above() {
        Check.about("(a batch that gets its units in it goes on in it, too, if its number is above that of the one that"
                + " gave them back)");
        BatchHall hall = oneUnit(2);
        makeBatches(hall, 0, 0, 0);
        for (int i = 0; i < 3; i++) {
            hall.start(i);
        }
        int[][] states = {{RUNNING, WAITING, WAITING}, {COMPLETE, RUNNING, WAITING}, {COMPLETE, COMPLETE, RUNNING},
            {COMPLETE, COMPLETE, COMPLETE}};
        for (int i = 0; i < 4; i++) {
            Check.same("tick " + i, hall.tick(), i < 3 ? 1 : 0);
            for (int batch = 0; batch < 3; batch++) {
                stateIs(hall, batch, states[i][batch]);
            }
        }
    }

    private static void below() {
        Check.about("(a batch that gets its units in it goes on in it, too, if its number is above that of the one that"
                + " gave them back)");
        BatchHall hall = oneUnit(2);
        makeBatches(hall, 0, 0, 0);
        for (int i = 2; i >= 0; i--) {
            hall.start(i);
        }
        int[][] states = {{WAITING, WAITING, RUNNING}, {WAITING, RUNNING, COMPLETE}, {WAITING, RUNNING, COMPLETE},
            {RUNNING, COMPLETE, COMPLETE}, {RUNNING, COMPLETE, COMPLETE}, {COMPLETE, COMPLETE, COMPLETE}};
        for (int i = 0; i < 6; i++) {
            Check.same("tick " + i, hall.tick(), i < 5 ? 1 : 0);
            for (int batch = 0; batch < 3; batch++) {
                stateIs(hall, batch, states[i][batch]);
            }
        }
    }

    private static void aboveAndBelow() {
        Check.about("(a batch that gets its units in it goes on in it, too, if its number is above that of the one that"
                + " gave them back)");
        for (int way = 0; way < 2; way++) {
            BatchHall hall = new BatchHall();
            release(hall, 0, new int[] {0, 0, 0}, heat(1), end());
            release(hall, 1, new int[] {0, 0, 0}, heat(0, 3, 1), end());
            makeBatches(hall, 0, 0, 1, 0, 0);
            // 1 and 2 own all units; of the two that wait, one is above, one below.
            hall.start(1);
            hall.start(2);
            hall.start(way == 0 ? 0 : 3);
            hall.start(way == 0 ? 3 : 0);
            if (way == 1) {
                hall.stop(1);
            }
            hall.tick();
            stateIs(hall, 1, way == 0 ? COMPLETE : STOPPED);
            // Below: it gets its units, but stays. Above: it is COMPLETE, and gives them to the one below.
            stateIs(hall, 0, RUNNING);
            stateIs(hall, 3, way == 0 ? WAITING : COMPLETE);
            hall.tick();
            stateIs(hall, 0, COMPLETE);
            stateIs(hall, 3, COMPLETE);
            stateIs(hall, 4, MADE);
        }
    }

    /** The batch that runs is ABORTED in the tick, for there are no more lots. */
    private static void byLotsThatLack() {
        Check.about("where another one would be made, the batch is ABORTED instead");
        BatchHall hall = LotTest.withLots(100);
        hall.unit(5, 1);
        release(hall, 2, new int[] {1, 3, 3}, heat(1), charge(0, 5, 0, 2), end());
        release(hall, 3, new int[] {1, 3, 3}, heat(1), end());
        makeBatches(hall, 3, 2, 3);
        hall.start(5);
        hall.start(6);
        hall.start(4);
        Check.same("one runs behind it", hall.tick(), 1);
        stateIs(hall, 5, ABORTED);
        stateIs(hall, 6, COMPLETE);
        stateIs(hall, 4, RUNNING);
    }

    public static void main(String[] args) {
        justEnough();
        enoughOfEach();
        leastNumber();
        runningAtOnce();
        noneBefore();
        notBefore();
        inOrderOfStart();
        noUnitNeeded();
        overAtOnce();
        givenBack();
        waitingIsAborted();
        notByUnit();
        above();
        below();
        aboveAndBelow();
        byLotsThatLack();
        Check.end();
    }
}
