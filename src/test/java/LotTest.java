/** LOTS, MOVING and REACT (promises 18 to 23) at the edges that the document names. */
public final class LotTest extends Charts {
    /** A hall with 96 to 100 lots of 1 each: four batches made 25, or 24, in each of the units 0 to 3. */
    static BatchHall withLots(int lots) {
        BatchHall hall = new BatchHall();
        release(hall, 0, ONE_ROLE, charge(0, 1, 0, 1), loop(4, 2, 0), loop(4, 3, 0), end());
        release(hall, 1, ONE_ROLE, charge(0, 1, 0, 1), loop(3, 2, 0), loop(5, 3, 0), end());
        for (int i = 0; i < 4; i++) {
            hall.batch(i < 100 - lots ? 1 : 0, 0);
            hall.start(i);
        }
        ticks(hall, 24);
        hall.tick();
        Check.same("lots", hall.lots(), lots);
        stateIs(hall, 3, COMPLETE);
        return hall;
    }

    /** Batch 4 of a recipe more, started, whose roles 0 to 2 have the units 0 to 2. */
    private static BatchHall startedWithLots(int lots, int[]... rows) {
        BatchHall hall = withLots(lots);
        release(hall, 2, new int[] {0, 0, 0}, rows);
        hall.batch(2, 0);
        hall.start(4);
        return hall;
    }

    private static void hundredByCharge() {
        Check.about("at most 100; where another one would be made, the batch is ABORTED instead");
        BatchHall last = startedWithLots(99, charge(0, 5, 0, 1), charge(0, 5, 0, 2), end());
        stateIs(last, 4, RUNNING);
        Check.same("the hundredth", last.lots(), 100);
        Check.same("its batch", last.lot(99, 0), 4);
        Check.same("its step", last.lot(99, 1), 0);
        Check.same("no more", last.lot(100, 0), -1);
        Check.same("ABORTED in the tick", last.tick(), 0);
        stateIs(last, 4, ABORTED);
        Check.same("the hundredth has its amount", last.lot(99, 2), 5);
        Check.same("lots", last.lots(), 100);
        BatchHall full = startedWithLots(100, charge(0, 5, 0, 1), end());
        stateIs(full, 4, ABORTED);
        Check.same("lots", full.lots(), 100);
        Check.same("no tokens", full.token(4, 0), -1);
        Check.same("no owner", full.unitIs(0, 0), -1);
        Check.same("what is in the unit stays", full.unitIs(0, 3), 25);
        BatchHall zero = startedWithLots(100, charge(0, 0, 0, 1), end());
        stateIs(zero, 4, ABORTED);
        BatchHall first = withLots(100);
        first.batch(0, 0);
        Check.same("what start answers", first.start(4), ABORTED);
    }

    private static void hundredByTwoCharges() {
        Check.about("at most 100; where another one would be made, the batch is ABORTED instead");
        int[][] rows = {fork(1, 2), charge(0, 5, 0, 3), charge(1, 5, 0, 3), join(4), end()};
        BatchHall both = startedWithLots(98, rows);
        stateIs(both, 4, RUNNING);
        Check.same("both", both.lots(), 100);
        BatchHall one = startedWithLots(99, rows);
        stateIs(one, 4, ABORTED);
        Check.same("one of two", one.lots(), 100);
        Check.same("which is there, with nothing", one.lot(99, 2), 0);
        Check.same("by the first token", one.lot(99, 1), 1);
    }

    private static void hundredByReact() {
        Check.about("at most 100; where another one would be made, the batch is ABORTED instead");
        BatchHall last = startedWithLots(99, react(1, 1, 1), end());
        last.tick();
        stateIs(last, 4, COMPLETE);
        Check.same("the hundredth", last.lots(), 100);
        contentIs("all of unit 1", last, 1, 99, 25);
        BatchHall full = startedWithLots(100, react(1, 2, 1), end());
        Check.same("REACT begins", full.token(4, 0), 16);
        Check.same("tick", full.tick(), 1);
        Check.same("ABORTED at its end", full.tick(), 0);
        stateIs(full, 4, ABORTED);
        Check.same("lots", full.lots(), 100);
        Check.same("unit 1 is as it was", full.unitIs(1, 2), 25);
        Check.same("its first lot went nowhere", full.lot(full.content(1, 0, 0), 4), 0);
        BatchHall stopping = startedWithLots(100, react(1, 1, 1), end());
        stopping.stop(4);
        stopping.tick();
        stateIs(stopping, 4, ABORTED);
    }

    private static void reactOfNothingAtHundred() {
        Check.about("(nothing, if there is none)");
        BatchHall hall = withLots(100);
        for (int unit = 0; unit < 4; unit++) {
            hall.unit(unit, 1);
        }
        release(hall, 2, ONE_ROLE, react(0, 1, 1), end());
        hall.batch(2, 0);
        hall.start(4);
        Check.same("an empty unit", hall.unitIs(hall.unitOf(4, 0), 2), 0);
        hall.tick();
        stateIs(hall, 4, COMPLETE);
        Check.same("lots", hall.lots(), 100);
    }

    private static void hundredInOrderOfTokens() {
        Check.about("each phase that has begun, in the order of tokens, goes on");
        BatchHall two = startedWithLots(99, fork(1, 2), react(1, 1, 3), react(0, 1, 3), join(4), end());
        two.tick();
        stateIs(two, 4, ABORTED);
        contentIs("the first token's REACT is done", two, 1, 99, 25);
        Check.same("the second one's isn't", two.unitIs(0, 2), 24);
        BatchHall before = startedWithLots(99, fork(1, 2), charge(1, 5, 0, 3), react(0, 1, 3), join(4), end());
        before.tick();
        stateIs(before, 4, ABORTED);
        Check.same("CHARGE went on before", before.lot(99, 2), 5);
        BatchHall behind = startedWithLots(99, fork(1, 2), react(0, 1, 3), charge(1, 5, 0, 3), join(4), end());
        behind.tick();
        stateIs(behind, 4, ABORTED);
        Check.same("CHARGE would have gone on behind", behind.lot(99, 2), 0);
    }

    private static void above0() {
        Check.about("a CONTENT: LOTS with amounts above 0, in the order in which they came");
        BatchHall hall = running(0, charge(0, 0, 0, 1), charge(0, 3, 0, 2), charge(0, 1, 0, 3), move(0, 1, 75, 4),
                move(0, 1, 100, 5), end());
        ticks(hall, 3);
        contentIs("lot 0 has nothing", hall, 0, 1, 3, 2, 1);
        ticks(hall, 1);
        // 9/4 is 2 rest 1, 3/4 is 0 rest 3.
        contentIs("came", hall, 1, 1, 2, 2, 1);
        contentIs("lot 2 is gone", hall, 0, 1, 1);
        ticks(hall, 1);
        contentIs("all are gone", hall, 0);
        contentIs("came to the same lot", hall, 1, 1, 3, 2, 1);
    }

    private static void shareOfNothing() {
        Check.about("a CONTENT: LOTS with amounts above 0");
        BatchHall hall = running(0, charge(0, 1, 0, 1), charge(0, 9, 0, 2), move(0, 1, 50, 3), end());
        ticks(hall, 3);
        // 5/10 is 0 rest 5, 45/10 is 4 rest 5: the first one.
        contentIs("came", hall, 1, 0, 1, 1, 4);
        contentIs("is left", hall, 0, 1, 5);
        BatchHall none = running(0, charge(0, 1, 0, 1), charge(0, 9, 0, 2), move(0, 1, 10, 3), end());
        ticks(none, 3);
        contentIs("nothing of lot 0 came", none, 1, 1, 1);
        contentIs("all of it is left", none, 0, 0, 1, 1, 8);
    }

    private static void inTheOrderOfComing() {
        Check.about("(to the same lot there, or behind all)");
        BatchHall hall = running(0, charge(0, 2, 0, 1), charge(1, 2, 0, 2), move(1, 2, 100, 3), move(0, 2, 100, 4),
                move(2, 0, 25, 5), react(2, 1, 6), end());
        ticks(hall, 4);
        contentIs("lot 1 came first", hall, 2, 1, 2, 0, 2);
        ticks(hall, 1);
        Check.about("of equal ones the first");
        contentIs("the first of the content, not of the numbers", hall, 0, 1, 1);
        contentIs("is left", hall, 2, 1, 1, 0, 2);
        ticks(hall, 1);
        Check.about("in the order of the content");
        Check.same("from 0", hall.from(2, 0, 0), 1);
        Check.same("amount 0", hall.from(2, 0, 1), 1);
        Check.same("from 1", hall.from(2, 1, 0), 0);
        Check.same("amount 1", hall.from(2, 1, 1), 2);
        Check.about("by number");
        Check.same("origin 0", hall.trace(2, false, 0), 0);
        Check.same("origin 1", hall.trace(2, false, 1), 1);
    }

    private static void eachLotOnce() {
        Check.about("A content has each lot once.");
        BatchHall hall = running(0, charge(0, 25, 0, 1), move(0, 1, 100, 2), move(1, 0, 40, 3), move(1, 0, 100, 4),
                end());
        ticks(hall, 3);
        contentIs("CHARGE adds to one lot", hall, 0, 0, 25);
        ticks(hall, 3);
        contentIs("MOVE too", hall, 1, 0, 25);
        contentIs("and leaves none", hall, 0);
        ticks(hall, 1);
        contentIs("10 back", hall, 0, 0, 10);
        ticks(hall, 1);
        contentIs("20 back", hall, 0, 0, 20);
        ticks(hall, 1);
        contentIs("all back", hall, 0, 0, 25);
        stateIs(hall, 0, COMPLETE);
    }

    /** Lots 0, 1, .. of these amounts are in unit 0; so many hundredths of all are moved into unit 1. */
    private static void moves(int[] amounts, int hundredths, int... want) {
        int[][] rows = new int[amounts.length + 2][];
        int ticks = 0;
        int all = 0;
        for (int i = 0; i < amounts.length; i++) {
            rows[i] = charge(0, amounts[i], 0, i + 1);
            ticks += (amounts[i] + 9) / 10;
            all += amounts[i];
        }
        rows[amounts.length] = move(0, 1, hundredths, amounts.length + 1);
        rows[amounts.length + 1] = end();
        BatchHall hall = running(0, rows);
        ticks(hall, ticks + Math.max(1, (all * hundredths / 100 + 9) / 10));
        stateIs(hall, 0, COMPLETE);
        String what = hundredths + " hundredths of " + java.util.Arrays.toString(amounts) + ", lot ";
        for (int lot = 0; lot < amounts.length; lot++) {
            Check.same(what + lot + " came", amountIn(hall, 1, lot), want[lot]);
            Check.same(what + lot + " is left", amountIn(hall, 0, lot), amounts[lot] - want[lot]);
        }
    }

    private static int amountIn(BatchHall hall, int unit, int lot) {
        for (int i = 0; i < hall.unitIs(unit, 2); i++) {
            if (hall.content(unit, i, 0) == lot) {
                return hall.content(unit, i, 1);
            }
        }
        return 0;
    }

    private static void shares() {
        Check.about("of each lot x times its amount / y, without what is behind the point; what lacks then, 1 each of"
                + " those whose rest of that division is greatest");
        moves(new int[] {5, 3, 4}, 67, 3, 2, 3);
        moves(new int[] {1, 1, 2}, 25, 0, 0, 1);
        moves(new int[] {1, 2, 2}, 60, 1, 1, 1);
        moves(new int[] {2, 2, 3}, 58, 1, 1, 2);
        moves(new int[] {2, 3, 3}, 25, 0, 1, 1);
        moves(new int[] {4, 6}, 50, 2, 3);
        moves(new int[] {9, 1}, 10, 1, 0);
        moves(new int[] {1, 9}, 10, 0, 1);
        moves(new int[] {3, 1, 4, 2}, 100, 3, 1, 4, 2);
        Check.about("of equal ones the first");
        moves(new int[] {1, 1, 1}, 34, 1, 0, 0);
        moves(new int[] {1, 1, 1}, 67, 1, 1, 0);
        moves(new int[] {3, 3, 4}, 50, 2, 1, 2);
        moves(new int[] {3, 3, 3}, 23, 1, 1, 0);
        moves(new int[] {4, 3, 3}, 50, 2, 2, 1);
        moves(new int[] {1, 1}, 50, 1, 0);
    }

    private static void sharesAnewEachTick() {
        Check.about("MOVING an amount x out of a content of y");
        // 10 of 15: 70/15 is 4 rest 10, 80/15 is 5 rest 5; then 2 of 5: 4/5 is 0 rest 4, 6/5 is 1 rest 1.
        moves(new int[] {7, 8}, 80, 6, 6);
        // 10 of 14: 20/14 is 1 rest 6, 120/14 is 8 rest 8; then 1 of 4: 1/4 is 0 rest 1, 3/4 is 0 rest 3.
        moves(new int[] {2, 12}, 80, 1, 10);
        moves(new int[] {3, 15}, 80, 3, 11);
        moves(new int[] {1, 3, 13}, 70, 0, 2, 9);
        // 10 of 33 three times and 3 at last.
        moves(new int[] {11, 11, 11}, 100, 11, 11, 11);
        moves(new int[] {11, 11, 11}, 31, 4, 3, 3);
    }

    /** Lots 0 to 2 have left the unit before: what there was of them is nothing to later shares. */
    private static void whatHasLeft() {
        Check.about("MOVING an amount x out of a content of y");
        BatchHall hall = running(0, charge(0, 1, 0, 1), charge(0, 1, 0, 2), charge(0, 9, 0, 3), move(0, 1, 100, 4),
                charge(0, 1, 0, 5), charge(0, 1, 0, 6), move(0, 2, 50, 7), end());
        ticks(hall, 8);
        stateIs(hall, 0, COMPLETE);
        contentIs("left before", hall, 1, 0, 1, 1, 1, 2, 9);
        contentIs("came", hall, 2, 3, 1);
        contentIs("is left", hall, 0, 4, 1);
    }

    private static void chargeMakesItsLot() {
        Check.about("CHARGE makes its lot when it begins, and adds to it 10 by 10");
        BatchHall hall = running(0, fork(1, 2), charge(0, 10, 0, 3), charge(0, 5, 0, 3), join(4), end());
        Check.same("one has begun", hall.lots(), 1);
        Check.same("of step 1", hall.lot(0, 1), 1);
        Check.same("nothing of it", hall.lot(0, 2), 0);
        hall.tick();
        Check.same("the other one, too", hall.lots(), 2);
        Check.same("of step 2", hall.lot(1, 1), 2);
        Check.same("nothing of that", hall.lot(1, 2), 0);
        hall.tick();
        contentIs("both", hall, 0, 0, 10, 1, 5);
    }

    private static void numberedByBatch() {
        Check.about("for each batch by number");
        BatchHall hall = new BatchHall();
        release(hall, 0, ONE_ROLE, heat(1), charge(0, 10, 0, 2), end());
        makeBatches(hall, 0, 0, 0);
        hall.start(2);
        hall.start(0);
        hall.start(1);
        Check.same("none yet", hall.lots(), 0);
        hall.tick();
        for (int lot = 0; lot < 3; lot++) {
            Check.same("batch of lot " + lot, hall.lot(lot, 0), lot);
            Check.same("step of lot " + lot, hall.lot(lot, 1), 1);
        }
        hall.tick();
        contentIs("the one started first has the first unit", hall, 0, 2, 10);
    }

    /** Batch 2 gets its unit, and begins its CHARGE, at the turn of 0: before 1 has its turn. */
    private static void numberedAsTheyAreMade() {
        Check.about("LOTS are numbered from 0 as they are made");
        BatchHall hall = new BatchHall();
        hall.unit(5, 1);
        release(hall, 0, new int[] {1, 3, 3}, heat(1), end());
        release(hall, 1, new int[] {1, 3, 3}, charge(0, 5, 0, 1), end());
        release(hall, 2, ONE_ROLE, heat(1), charge(0, 5, 0, 2), end());
        makeBatches(hall, 0, 2, 1);
        for (int i = 0; i < 3; i++) {
            hall.start(i);
        }
        hall.tick();
        Check.same("lot 0", hall.lot(0, 0), 2);
        Check.same("lot 1", hall.lot(1, 0), 1);
        Check.same("batch 2 went on in the tick", hall.lot(0, 2), 5);
        Check.same("the other lot is still empty", hall.lot(1, 2), 0);
        BatchHall two = running(0, charge(0, 5, 0, 1), charge(1, 5, 0, 2), fork(3, 4), react(1, 1, 5), react(0, 1, 5),
                join(6), end());
        ticks(two, 3);
        Check.same("by the first token", two.lot(2, 1), 3);
        Check.same("by the second token", two.lot(3, 1), 4);
    }

    private static void inAllUnits() {
        Check.about("2 how much of it there is in all units, 3 how many lots went into it, 4 into how many it went");
        BatchHall hall = running(0, charge(0, 9, 0, 1), move(0, 1, 67, 2), move(1, 2, 50, 3), react(0, 1, 4),
                react(1, 1, 5), end());
        int[][] want = {{9, 0, 0}, {9, 0, 0}, {9, 0, 0}, {6, 0, 1}, {3, 0, 2}};
        for (int[] x : want) {
            hall.tick();
            for (int what = 0; what < 3; what++) {
                Check.same("lot(0, " + (what + 2) + ")", hall.lot(0, what + 2), x[what]);
            }
        }
        Check.same("one went into it", hall.lot(1, 3), 1);
        Check.same("how much of that", hall.from(1, 0, 1), 3);
        Check.same("how much of it", hall.lot(1, 2), 3);
    }

    /** Lot 0 went into 1 and 2, both of these into 4, and 3 too: each is told once. */
    private static void theirsAndSoOn() {
        Check.about("A lot's ORIGINS are those that went into it, theirs, and so on; its OUTCOMES those into which it"
                + " went, and so on.");
        BatchHall hall = running(0, charge(0, 8, 0, 1), move(0, 1, 50, 2), react(0, 1, 3), react(1, 1, 4),
                charge(0, 1, 0, 5), move(1, 0, 100, 6), react(0, 1, 7), react(0, 1, 8), charge(2, 5, 0, 9), end());
        ticks(hall, 9);
        stateIs(hall, 0, COMPLETE);
        int[][] origins = {{}, {0}, {0}, {}, {0, 1, 2, 3}, {0, 1, 2, 3, 4}, {}};
        int[][] outcomes = {{1, 2, 4, 5}, {4, 5}, {4, 5}, {4, 5}, {5}, {}, {}};
        for (int lot = 0; lot < 7; lot++) {
            for (int i = 0; i <= 6; i++) {
                int origin = i < origins[lot].length ? origins[lot][i] : -1;
                int outcome = i < outcomes[lot].length ? outcomes[lot][i] : -1;
                Check.same("trace(" + lot + ", false, " + i + ")", hall.trace(lot, false, i), origin);
                Check.same("trace(" + lot + ", true, " + i + ")", hall.trace(lot, true, i), outcome);
            }
        }
        Check.same("went into it alone", hall.lot(5, 3), 1);
        Check.same("it went into two", hall.lot(0, 4), 2);
    }

    /** The hundredth lot, with as many origins as there can be. */
    private static void manyOrigins() {
        Check.about("The i-th of a lot's ORIGINS, or OUTCOMES, by number; NONE if there is none.");
        BatchHall hall = startedWithLots(98, move(0, 1, 100, 1), react(1, 1, 2), react(1, 1, 3), end());
        ticks(hall, 5);
        stateIs(hall, 4, COMPLETE);
        Check.same("lots", hall.lots(), 100);
        Check.same("of units 0 and 1", hall.lot(98, 3), 48);
        Check.same("the first of them", hall.from(98, 0, 0), 1);
        Check.same("with what amount", hall.from(98, 47, 1), 1);
        Check.same("none more", hall.from(98, 48, 0), -1);
        Check.same("into the last one went one", hall.from(99, 0, 0), 98);
        Check.same("with all that there was", hall.from(99, 0, 1), 48);
        Check.same("none more", hall.from(99, 1, 0), -1);
        Check.same("no such lot", hall.from(100, 0, 0), -1);
        Check.same("the last one's first origin", hall.trace(99, false, 0), 0);
        Check.same("the last one's last origin", hall.trace(99, false, 48), 98);
        Check.same("none more", hall.trace(99, false, 49), -1);
        Check.same("the first one's first outcome", hall.trace(0, true, 0), 98);
        Check.same("the first one's last outcome", hall.trace(0, true, 1), 99);
        Check.same("none more", hall.trace(0, true, 2), -1);
        Check.same("no outcome of the last", hall.trace(99, true, 0), -1);
        for (int i : outside(100)) {
            Check.same("i " + i, hall.trace(99, false, i), -1);
            Check.same("lot " + i, hall.trace(i, false, 0), -1);
        }
    }

    public static void main(String[] args) {
        hundredByCharge();
        hundredByTwoCharges();
        hundredByReact();
        reactOfNothingAtHundred();
        hundredInOrderOfTokens();
        above0();
        shareOfNothing();
        inTheOrderOfComing();
        eachLotOnce();
        shares();
        sharesAnewEachTick();
        whatHasLeft();
        chargeMakesItsLot();
        numberedByBatch();
        numberedAsTheyAreMade();
        inAllUnits();
        theirsAndSoOn();
        manyOrigins();
        Check.end();
    }
}
