/** Promises 9, 14 and 16: how tokens move, what is measured, and where a token is. */
public final class TokenTest extends Charts {
    private static void token() {
        Check.about("JOIN: two tokens there become one at NEXT, one waits");
        BatchHall hall = running(0, fork(1, 2), heat(0, 1, 3), heat(0, 2, 3), join(4),
                heat(0, 1, 5), end());
        tokensAre("one waits for the role", hall, 17, 2);
        Check.same("no such batch", hall.token(1, 0), -1);
        Check.same("no such batch", hall.token(-1, 0), -1);
        Check.same("no such token", hall.token(0, -1), -1);
        hall.tick();
        tokensAre("one waits at the JOIN", hall, 3, 18);
        hall.tick();
        tokensAre("the role was free then for two ticks", hall, 3, 18);
        hall.tick();
        tokensAre("two have become one", hall, 20);
        hall.tick();
        tokensAre("over", hall);
    }

    private static void joinOnOneTick() {
        Check.about("Of two at a JOIN the one at whose turn both are there goes on, the other one is gone.");
        BatchHall hall = running(0, fork(1, 2), heat(0, 1, 3), heat(1, 1, 3), join(4),
                heat(0, 1, 5), end());
        tokensAre("both have begun", hall, 17, 18);
        hall.tick();
        tokensAre("the first goes on", hall, 20);
    }

    private static void forkInFork() {
        Check.about("FORK: the token goes to NEXT, a new one to OTHER");
        BatchHall hall = running(0, fork(1, 5), fork(2, 3), heat(0, 3, 4), heat(1, 2, 4),
                join(6), heat(2, 1, 6), join(7), heat(0, 1, 8), end());
        tokensAre("the outer OTHER is made first", hall, 18, 21, 19);
        hall.tick();
        tokensAre("one waits at the outer JOIN", hall, 18, 6, 19);
        hall.tick();
        tokensAre("one at the inner, too", hall, 18, 6, 4);
        hall.tick();
        tokensAre("both are gone", hall, 23);
    }

    /** The second token goes on from the JOIN, and comes to the FORK again: the third is behind it. */
    private static void forkAgain() {
        Check.about("FORK: the token goes to NEXT, a new one to OTHER");
        BatchHall hall = running(0, fork(1, 2), heat(0, 1, 4), heat(1, 1, 3), loop(4, 2), join(5), loop(3, 6, 0),
                end());
        for (int round = 0; round < 4; round++) {
            tokensAre("round " + round, hall, 17, 18);
            hall.tick();
            tokensAre("round " + round + ", one waits", hall, 4, 18);
            Check.same("round " + round, hall.tick(), round < 3 ? 1 : 0);
        }
        stateIs(hall, 0, COMPLETE);
    }

    private static void joinBeforeAnothersTurn() {
        Check.about("Of two at a JOIN the one at whose turn both are there goes on, the other one is gone.");
        BatchHall hall = running(0, fork(1, 6), fork(2, 3), heat(0, 1, 5), heat(1, 1, 4), loop(5, 3), join(10),
                fork(7, 8), heat(2, 5, 9), heat(1, 2, 9), join(10), join(11), end());
        tokensAre("four", hall, 18, 23, 19, 8);
        hall.tick();
        tokensAre("the first waits at its JOIN", hall, 5, 23, 19, 8);
        hall.tick();
        tokensAre("the third goes on there, and the fourth has its turn, too", hall, 23, 10, 24);
    }

    /** The partner came to the JOIN by the tick: both are there at the first one's turn. */
    private static void joinAtTheTurnOfTheOneThatWaited() {
        Check.about("Of two at a JOIN the one at whose turn both are there goes on, the other one is gone.");
        BatchHall hall = running(0, fork(1, 5), fork(2, 3), heat(0, 1, 4), heat(1, 2, 4), join(6), heat(2, 5, 6),
                join(7), end());
        hall.tick();
        tokensAre("the first waits at its JOIN", hall, 4, 21, 19);
        hall.tick();
        tokensAre("and goes on there", hall, 6, 21);
    }

    private static void tokensHaveTheirTurnInOrder() {
        Check.about("Tokens are gone through in the order in which they were made");
        BatchHall hall = running(0, fork(1, 3), heat(0, 1, 2), heat(0, 1, 4), heat(0, 1, 4),
                join(5), end());
        tokensAre("the first has the role", hall, 17, 3);
        hall.tick();
        tokensAre("and has it again", hall, 18, 3);
        hall.tick();
        tokensAre("then the other one", hall, 4, 19);
        Check.same("over", hall.tick(), 0);
    }

    /** The phases of two branches: the second begins at once only if the first has none of its roles. */
    private static void beside(String what, boolean begins, int[] first, int[] second) {
        first[4] = 3;
        second[4] = 3;
        BatchHall hall = running(0, fork(1, 2), first, second, join(4), end());
        tokensAre(what, hall, 17, begins ? 18 : 2);
        Check.same(what + ": how many have begun", hall.batchIs(0, 4), begins ? 2 : 1);
    }

    private static void oneOfItsRoles() {
        Check.about("it BEGINS if no other phase of the batch that has begun has one of its units (roles); otherwise it"
                + " waits");
        for (int role = 0; role < 3; role++) {
            for (int other = 0; other < 3; other++) {
                String what = "roles " + role + ", " + other;
                boolean apart = role != other;
                beside("HEAT, HEAT " + what, apart, heat(role, 2, 0), heat(other, 2, 0));
                beside("CHARGE, REACT " + what, apart, charge(role, 1, 2, 0), react(other, 2, 0));
                // SAMPLE's b is a name: it takes no role.
                beside("SAMPLE, HEAT " + what, apart, row(4, role, 1, 2, 0, 0), heat(other, 1, 0));
                int rest = 3 - role - other;
                if (apart) {
                    beside("MOVE, HEAT " + what, false, move(role, other, 1, 0), heat(role, 1, 0));
                    beside("MOVE, HEAT into " + what, false, move(role, other, 1, 0), heat(other, 1, 0));
                    beside("MOVE, HEAT past " + what, true, move(role, other, 1, 0), heat(rest, 1, 0));
                    beside("HEAT, MOVE " + what, false, heat(role, 1, 0), move(role, other, 1, 0));
                    beside("HEAT, MOVE into " + what, false, heat(other, 1, 0), move(role, other, 1, 0));
                    beside("HEAT, MOVE past " + what, true, heat(rest, 1, 0), move(role, other, 1, 0));
                    beside("MOVE, MOVE back " + what, false, move(role, other, 1, 0), move(other, role, 1, 0));
                    beside("MOVE, MOVE on " + what, false, move(role, other, 1, 0), move(other, rest, 1, 0));
                    beside("MOVE, MOVE beside " + what, false, move(role, other, 1, 0), move(rest, other, 1, 0));
                    beside("MOVE, MOVE out of " + what, false, move(role, other, 1, 0), move(role, rest, 1, 0));
                }
            }
        }
    }

    private static void waitsForItsRole() {
        Check.about("it BEGINS if no other phase of the batch that has begun has one of its units (roles); otherwise it"
                + " waits");
        BatchHall hall = running(0, fork(1, 2), move(0, 1, 50, 4), heat(1, 1, 3), heat(2, 1, 4), join(5), end());
        tokensAre("MOVE has roles 0 and 1", hall, 17, 2);
        hall.tick();
        tokensAre("then HEAT has role 1", hall, 4, 18);
        BatchHall two = released(heat(0, 5, 1), end());
        makeBatches(two, 0, 0);
        two.start(0);
        two.start(1);
        Check.same("another batch's phase doesn't matter", two.token(1, 0), 16);
    }

    private static void samples() {
        Check.about("4 SAMPLE: role a, until name b is measured.");
        BatchHall hall = released(sample(1, 1), fork(2, 3), sample(1, 4),
                row(4, 1, 1, 0, 4, -1), join(5), end());
        hall.batch(0, 0);
        Check.yes("of one that is MADE", hall.measure(0, 1, 9));
        hall.start(0);
        hall.tick();
        tokensAre("what was measured before it began doesn't count", hall, 16);
        hall.measure(0, 0, 1);
        hall.tick();
        tokensAre("nor does another name", hall, 16);
        hall.measure(0, 1, 1);
        tokensAre("it is done with the tick", hall, 16);
        hall.tick();
        tokensAre("two for one name", hall, 18, 19);
        hall.hold(0);
        Check.yes("of one that is HELD", hall.measure(0, 1, 2));
        hall.tick();
        tokensAre("it rests", hall, 18, 19);
        hall.restart(0);
        tokensAre("tokens stay", hall, 18, 19);
        Check.same("what was measured counts for both", hall.tick(), 0);
    }

    private static void measure() {
        Check.about("A value is measured for a name of a batch");
        BatchHall hall = released(sample(1, 1), end());
        for (int i = 0; i < 3; i++) {
            hall.batch(0, 0);
            hall.start(i);
        }
        Check.no("no such batch", hall.measure(3, 0, 0));
        Check.no("no such batch", hall.measure(-1, 0, 0));
        Check.no("no such name", hall.measure(0, 4, 0));
        Check.no("no such name", hall.measure(0, -1, 0));
        Check.yes("of one that is WAITING", hall.measure(2, 1, 0));
        hall.stop(1);
        Check.yes("of one that is STOPPING", hall.measure(1, 1, 0));
        hall.tick();
        Check.same("which is STOPPED then", hall.batchIs(1, 0), 5);
        Check.no("of one that is STOPPED", hall.measure(1, 1, 0));
        hall.abort(0);
        Check.no("of one that is ABORTED", hall.measure(0, 1, 0));
        hall.tick();
        Check.same("RUNNING, and not measured since", hall.batchIs(2, 0), 2);
        hall.measure(2, 1, 0);
        hall.tick();
        Check.no("of one that is COMPLETE", hall.measure(2, 1, 0));
    }

    public static void main(String[] args) {
        token();
        joinOnOneTick();
        forkInFork();
        forkAgain();
        joinBeforeAnothersTurn();
        joinAtTheTurnOfTheOneThatWaited();
        tokensHaveTheirTurnInOrder();
        oneOfItsRoles();
        waitsForItsRole();
        samples();
        measure();
        Check.end();
    }
}
