/** Promises 9, 14 and 16: how tokens move, what is measured, and where a token is. */
public final class TokenTest extends Charts {
    private static BatchHall running(int[]... rows) {
        BatchHall hall = released(rows);
        hall.batch(0, 0);
        hall.start(0);
        return hall;
    }

    private static void tokensAre(String what, BatchHall hall, int... want) {
        for (int i = 0; i < want.length; i++) {
            Check.same(what + ": token " + i, hall.token(0, i), want[i]);
        }
        Check.same(what + ": no token more", hall.token(0, want.length), -1);
        Check.same(what + ": how many", hall.batchIs(0, 3), want.length);
    }

    private static void token() {
        BatchHall hall = running(fork(1, 2), heat(0, 1, 3), heat(0, 2, 3), join(4),
                heat(0, 1, 5), end());
        tokensAre("one waits for the role", hall, 17, 2);
        Check.same("no such batch", hall.token(1, 0), -1);
        Check.same("no such batch", hall.token(-1, 0), -1);
        Check.same("no such token", hall.token(0, -1), -1);
        hall.tick();
        tokensAre("one waits at the JOIN", hall, 3, 18);
        hall.tick();
        tokensAre("the role was free then for two ticks", hall, 3, 18);
        hall.tick();
        tokensAre("two have become one", hall, 20);
        hall.tick();
        tokensAre("over", hall);
    }

    private static void joinOnOneTick() {
        BatchHall hall = running(fork(1, 2), heat(0, 1, 3), heat(1, 1, 3), join(4),
                heat(0, 1, 5), end());
        tokensAre("both have begun", hall, 17, 18);
        hall.tick();
        tokensAre("the first goes on", hall, 20);
    }

    private static void forkInFork() {
        BatchHall hall = running(fork(1, 5), fork(2, 3), heat(0, 3, 4), heat(1, 2, 4),
                join(6), heat(2, 1, 6), join(7), heat(0, 1, 8), end());
        tokensAre("the outer OTHER is made first", hall, 18, 21, 19);
        hall.tick();
        tokensAre("one waits at the outer JOIN", hall, 18, 6, 19);
        hall.tick();
        tokensAre("one at the inner, too", hall, 18, 6, 4);
        hall.tick();
        tokensAre("both are gone", hall, 23);
    }

    private static void joinBeforeAnothersTurn() {
        BatchHall hall = running(fork(1, 6), fork(2, 3), heat(0, 1, 5), heat(1, 1, 4), loop(5, 3), join(10),
                fork(7, 8), heat(2, 5, 9), heat(1, 2, 9), join(10), join(11), end());
        tokensAre("four", hall, 18, 23, 19, 8);
        hall.tick();
        tokensAre("the first waits at its JOIN", hall, 5, 23, 19, 8);
        hall.tick();
        tokensAre("the third goes on there, and the fourth has its turn, too", hall, 23, 10, 24);
    }

    /** The partner came to the JOIN by the tick: both are there at the first one's turn. */
    private static void joinAtTheTurnOfTheOneThatWaited() {
        BatchHall hall = running(fork(1, 5), fork(2, 3), heat(0, 1, 4), heat(1, 2, 4), join(6), heat(2, 5, 6),
                join(7), end());
        hall.tick();
        tokensAre("the first waits at its JOIN", hall, 4, 21, 19);
        hall.tick();
        tokensAre("and goes on there", hall, 6, 21);
    }

    private static void tokensHaveTheirTurnInOrder() {
        BatchHall hall = running(fork(1, 3), heat(0, 1, 2), heat(0, 1, 4), heat(0, 1, 4),
                join(5), end());
        tokensAre("the first has the role", hall, 17, 3);
        hall.tick();
        tokensAre("and has it again", hall, 18, 3);
        hall.tick();
        tokensAre("then the other one", hall, 4, 19);
        Check.same("over", hall.tick(), 0);
    }

    private static void moveNeedsBothRoles() {
        BatchHall hall = running(fork(1, 2), move(0, 1, 50, 4), heat(1, 1, 3),
                heat(2, 1, 4), join(5), end());
        tokensAre("MOVE has roles 0 and 1", hall, 17, 2);
        hall.tick();
        tokensAre("then HEAT has role 1", hall, 4, 18);
        BatchHall other = running(fork(1, 2), heat(1, 2, 3), move(0, 1, 50, 3),
                join(4), end());
        tokensAre("HEAT has role 1", other, 17, 2);
    }

    private static void loops() {
        BatchHall hall = running(heat(0, 1, 1), row(8, 2, 0, 0, 2, 0), heat(1, 1, 3),
                row(8, 1, 0, 0, 4, 0), end());
        int[] way = {16, 16, 16, 18, 16, 16, 16, 18};
        for (int i = 0; i < way.length; i++) {
            tokensAre("after " + i + " ticks", hall, way[i]);
            hall.tick();
        }
        Check.same("COMPLETE", hall.batchIs(0, 0), 7);
    }

    private static void loopsArePerBatch() {
        BatchHall hall = running(heat(0, 1, 1), row(8, 1, 0, 0, 2, 0), end());
        hall.tick();
        hall.batch(0, 0);
        hall.start(1);
        Check.same("both go on", hall.tick(), 1);
        Check.same("the second batch's LOOP", hall.token(1, 0), 16);
        Check.same("comes to its end", hall.tick(), 0);
    }

    private static void choices() {
        int[] values = {Integer.MIN_VALUE, 4, 5, Integer.MAX_VALUE};
        int[] steps = {18, 18, 19, 19};
        for (int i = 0; i < values.length; i++) {
            BatchHall hall = running(sample(3, 1), row(7, 3, 5, 0, 2, 3), heat(0, 1, 4),
                    heat(0, 1, 4), end());
            Check.yes("measure", hall.measure(0, 3, values[i]));
            hall.tick();
            tokensAre("by " + values[i], hall, steps[i]);
        }
    }

    private static void choiceOfWhatIsNotMeasured() {
        BatchHall hall = running(heat(0, 1, 2), row(7, 3, 0, 0, 2, 3), row(8, 1, 0, 0, 4, 1),
                heat(1, 1, 5), heat(2, 1, 5), end());
        Check.same("the chart is released, though", hall.batchIs(0, 1), 0);
        hall.tick();
        tokensAre("a value is 0 at first, which is not below 0", hall, 19);
    }

    private static void samples() {
        BatchHall hall = released(sample(1, 1), fork(2, 3), sample(1, 4),
                row(4, 1, 1, 0, 4, -1), join(5), end());
        hall.batch(0, 0);
        Check.yes("of one that is MADE", hall.measure(0, 1, 9));
        hall.start(0);
        hall.tick();
        tokensAre("what was measured before it began doesn't count", hall, 16);
        hall.measure(0, 0, 1);
        hall.tick();
        tokensAre("nor does another name", hall, 16);
        hall.measure(0, 1, 1);
        tokensAre("it is done with the tick", hall, 16);
        hall.tick();
        tokensAre("two for one name", hall, 18, 19);
        hall.hold(0);
        Check.yes("of one that is HELD", hall.measure(0, 1, 2));
        hall.tick();
        tokensAre("it rests", hall, 18, 19);
        hall.restart(0);
        tokensAre("tokens stay", hall, 18, 19);
        Check.same("what was measured counts for both", hall.tick(), 0);
    }

    private static void measure() {
        BatchHall hall = released(sample(1, 1), end());
        for (int i = 0; i < 3; i++) {
            hall.batch(0, 0);
            hall.start(i);
        }
        Check.no("no such batch", hall.measure(3, 0, 0));
        Check.no("no such batch", hall.measure(-1, 0, 0));
        Check.no("no such name", hall.measure(0, 4, 0));
        Check.no("no such name", hall.measure(0, -1, 0));
        Check.yes("of one that is WAITING", hall.measure(2, 1, 0));
        hall.stop(1);
        Check.yes("of one that is STOPPING", hall.measure(1, 1, 0));
        hall.tick();
        Check.same("which is STOPPED then", hall.batchIs(1, 0), 5);
        Check.no("of one that is STOPPED", hall.measure(1, 1, 0));
        hall.abort(0);
        Check.no("of one that is ABORTED", hall.measure(0, 1, 0));
        hall.tick();
        Check.same("RUNNING, and not measured since", hall.batchIs(2, 0), 2);
        hall.measure(2, 1, 0);
        hall.tick();
        Check.no("of one that is COMPLETE", hall.measure(2, 1, 0));
    }

    /** Nested loops without a phase between them are gone through within one tick. */
    private static void loopsInLoops() {
        BatchHall hall = released(sample(0, 1), choice(0, 2, 2), row(8, 5, 0, 0, 3, 1),
                row(8, 5, 0, 0, 4, 1), row(8, 5, 0, 0, 5, 1), row(8, 5, 0, 0, 6, 1),
                row(8, 5, 0, 0, 7, 1), row(8, 5, 0, 0, 8, 1), row(8, 5, 0, 0, 9, 1),
                row(8, 5, 0, 0, 10, 1), row(8, 5, 0, 0, 11, 1), end());
        hall.batch(0, 0);
        hall.start(0);
        hall.measure(0, 0, 0);
        Check.same("COMPLETE within a tick", hall.tick(), 0);
        Check.same("its state", hall.batchIs(0, 0), 7);
    }

    public static void main(String[] args) {
        token();
        joinOnOneTick();
        forkInFork();
        joinBeforeAnothersTurn();
        joinAtTheTurnOfTheOneThatWaited();
        tokensHaveTheirTurnInOrder();
        moveNeedsBothRoles();
        loops();
        loopsArePerBatch();
        choices();
        choiceOfWhatIsNotMeasured();
        samples();
        measure();
        loopsInLoops();
        Check.end();
    }
}
