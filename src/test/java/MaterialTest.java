/** Promises 18 to 23: unitIs, content, lot, from, trace, lots, and what CHARGE, MOVE and REACT do. */
public final class MaterialTest extends Charts {
    private static final int FAR = Integer.MAX_VALUE;

    private static void ticks(BatchHall hall, int count) {
        for (int i = 0; i < count; i++) {
            hall.tick();
        }
    }

    private static BatchHall running(int size, int[]... rows) {
        BatchHall hall = released(rows);
        hall.batch(0, size);
        hall.start(0);
        return hall;
    }

    /** The rest of the rows is lot, amount, lot, amount, .. */
    private static void contentIs(String what, BatchHall hall, int unit, int... want) {
        int all = 0;
        for (int i = 0; i < want.length / 2; i++) {
            Check.same(what + ": lot " + i + " in " + unit, hall.content(unit, i, 0), want[2 * i]);
            Check.same(what + ": amount " + i + " in " + unit, hall.content(unit, i, 1), want[2 * i + 1]);
            all += want[2 * i + 1];
        }
        Check.same(what + ": no lot more", hall.content(unit, want.length / 2, 0), -1);
        Check.same(what + ": how many", hall.unitIs(unit, 2), want.length / 2);
        Check.same(what + ": how much", hall.unitIs(unit, 3), all);
    }

    private static void charge() {
        BatchHall hall = running(199, charge(1, 13, 5, 1), heat(0, 1, 2), end());
        Check.same("the lot is there when it begins", hall.lots(), 1);
        contentIs("nothing yet", hall, 1);
        hall.tick();
        contentIs("10 each tick", hall, 1, 0, 10);
        ticks(hall, 2);
        contentIs("13 and 9, for 9.95", hall, 1, 0, 22);
        Check.same("the next step", hall.token(0, 0), 17);
        contentIs("another unit", hall, 0);
        ticks(hall, 1);
        contentIs("what is in a unit stays", hall, 1, 0, 22);
        hall.batch(0, 1000);
        hall.start(1);
        ticks(hall, 6);
        contentIs("behind all", hall, 1, 0, 22, 1, 60);
        hall.abort(1);
        contentIs("of an ABORTED one, too", hall, 1, 0, 22, 1, 60);
    }

    private static void chargeOfNothing() {
        BatchHall hall = running(99, charge(0, 0, 1, 1), charge(0, 20, 0, 2), end());
        Check.same("has begun", hall.token(0, 0), 16);
        hall.tick();
        Check.same("done with the first tick", hall.token(0, 0), 17);
        Check.same("its lot is there", hall.lot(0, 2), 0);
        contentIs("but not in the unit", hall, 0);
        ticks(hall, 1);
        Check.same("20 isn't done with one tick", hall.token(0, 0), 17);
        ticks(hall, 1);
        Check.same("but with two", hall.batchIs(0, 0), 7);
        contentIs("the second lot alone", hall, 0, 1, 20);
    }

    private static void moveByShares() {
        // 5, 3 and 4 in unit 0: of 12 there are 8 to be moved, at once.
        BatchHall hall = running(0, charge(0, 5, 0, 1), charge(0, 3, 0, 2), charge(0, 4, 0, 3),
                move(0, 1, 67, 4), move(1, 0, 100, 5), end());
        ticks(hall, 3);
        contentIs("before", hall, 0, 0, 5, 1, 3, 2, 4);
        ticks(hall, 1);
        // 40/12 is 3 rest 4, 24/12 is 2 rest 0, 32/12 is 2 rest 8: the one that lacks is of lot 2.
        contentIs("what is left", hall, 0, 0, 2, 1, 1, 2, 1);
        contentIs("what came", hall, 1, 0, 3, 1, 2, 2, 3);
        ticks(hall, 1);
        contentIs("all of it", hall, 1);
        contentIs("to the same lots", hall, 0, 0, 5, 1, 3, 2, 4);
    }

    private static void moveOfEqualRests() {
        BatchHall hall = running(0, charge(0, 1, 0, 1), charge(0, 1, 0, 2), charge(0, 1, 0, 3),
                move(0, 1, 67, 4), move(0, 1, 100, 5), move(1, 0, 34, 6), end());
        ticks(hall, 4);
        contentIs("2 of 3: the first ones", hall, 1, 0, 1, 1, 1);
        contentIs("one lot is left", hall, 0, 2, 1);
        ticks(hall, 1);
        contentIs("behind all", hall, 1, 0, 1, 1, 1, 2, 1);
        contentIs("none is left", hall, 0);
        ticks(hall, 1);
        contentIs("1 of 3: the first", hall, 0, 0, 1);
        contentIs("the others keep their order", hall, 1, 1, 1, 2, 1);
    }

    private static void moveTenByTen() {
        BatchHall hall = running(0, charge(0, 30, 0, 1), move(0, 1, 85, 2), end());
        ticks(hall, 3);
        Check.same("MOVE has begun", hall.token(0, 0), 17);
        contentIs("nothing is moved yet", hall, 1);
        ticks(hall, 1);
        contentIs("10", hall, 1, 0, 10);
        ticks(hall, 1);
        contentIs("20 of the 25 for 25.5", hall, 1, 0, 20);
        Check.same("not done", hall.batchIs(0, 0), 2);
        ticks(hall, 1);
        contentIs("25", hall, 1, 0, 25);
        contentIs("what is left", hall, 0, 0, 5);
        Check.same("done", hall.batchIs(0, 0), 7);
    }

    private static void moveOfNothing() {
        BatchHall hall = running(0, move(0, 1, 100, 1), charge(0, 3, 0, 2), move(0, 1, 33, 3),
                end());
        ticks(hall, 1);
        Check.same("nothing there: done with the first tick", hall.token(0, 0), 17);
        ticks(hall, 2);
        contentIs("33 hundredths of 3 are nothing", hall, 1);
        Check.same("done", hall.batchIs(0, 0), 7);
    }

    private static void reacts() {
        BatchHall hall = running(0, react(2, 1, 1), charge(0, 8, 0, 2), charge(0, 7, 0, 3),
                move(0, 1, 40, 4), react(0, 2, 5), react(1, 1, 6), charge(0, 1, 0, 7),
                move(1, 0, 100, 8), react(0, 1, 9), end());
        ticks(hall, 1);
        Check.same("nothing there: no lot but that of the CHARGE", hall.lots(), 1);
        ticks(hall, 4);
        contentIs("a tick is left", hall, 0, 0, 5, 1, 4);
        Check.same("no new lot", hall.lots(), 2);
        ticks(hall, 2);
        contentIs("lot 2", hall, 0, 2, 9);
        contentIs("lot 3", hall, 1, 3, 6);
        ticks(hall, 3);
        contentIs("lot 5", hall, 0, 5, 16);
        Check.same("lots", hall.lots(), 6);
        lotsAre(hall);
        fromIs(hall);
        tracesAre(hall);
    }

    private static void lotsAre(BatchHall hall) {
        int[][] want = {{0, 1, 0, 0, 2}, {0, 2, 0, 0, 2}, {0, 4, 0, 2, 1}, {0, 5, 0, 2, 1}, {0, 6, 0, 0, 1},
            {0, 8, 16, 3, 0}};
        for (int lot = 0; lot < 6; lot++) {
            for (int what = 0; what < 5; what++) {
                Check.same("lot(" + lot + ", " + what + ")", hall.lot(lot, what), want[lot][what]);
            }
            Check.same("another what", hall.lot(lot, 5), -1);
            Check.same("another what", hall.lot(lot, -1), -1);
        }
        Check.same("no such lot", hall.lot(6, 0), -1);
        Check.same("no such lot", hall.lot(-1, 0), -1);
        Check.same("no such lot", hall.lot(FAR, 0), -1);
    }

    private static void fromIs(BatchHall hall) {
        int[][] want = {{}, {}, {0, 5, 1, 4}, {0, 3, 1, 3}, {}, {2, 9, 4, 1, 3, 6}};
        for (int lot = 0; lot < 6; lot++) {
            int count = want[lot].length / 2;
            for (int i = 0; i < count; i++) {
                Check.same("from(" + lot + ", " + i + ", 0)", hall.from(lot, i, 0), want[lot][2 * i]);
                Check.same("from(" + lot + ", " + i + ", 1)", hall.from(lot, i, 1), want[lot][2 * i + 1]);
                Check.same("another what", hall.from(lot, i, 2), -1);
                Check.same("another what", hall.from(lot, i, -1), -1);
            }
            Check.same("none more", hall.from(lot, count, 0), -1);
            Check.same("none before", hall.from(lot, -1, 0), -1);
        }
        Check.same("no such lot", hall.from(6, 0, 0), -1);
        Check.same("no such lot", hall.from(-1, 0, 0), -1);
    }

    private static void tracesAre(BatchHall hall) {
        int[][] origins = {{}, {}, {0, 1}, {0, 1}, {}, {0, 1, 2, 3, 4}};
        int[][] outcomes = {{2, 3, 5}, {2, 3, 5}, {5}, {5}, {5}, {}};
        for (int lot = 0; lot < 6; lot++) {
            traceIs(hall, lot, false, origins[lot]);
            traceIs(hall, lot, true, outcomes[lot]);
        }
        Check.same("no such lot", hall.trace(6, false, 0), -1);
        Check.same("no such lot", hall.trace(-1, true, 0), -1);
        Check.same("no such lot", hall.trace(FAR, true, FAR), -1);
    }

    private static void traceIs(BatchHall hall, int lot, boolean outcomes, int[] want) {
        String what = "trace(" + lot + ", " + outcomes + ")";
        for (int i = 0; i < want.length; i++) {
            Check.same(what + " " + i, hall.trace(lot, outcomes, i), want[i]);
        }
        Check.same(what + " none more", hall.trace(lot, outcomes, want.length), -1);
        Check.same(what + " none before", hall.trace(lot, outcomes, -1), -1);
        Check.same(what + " none far", hall.trace(lot, outcomes, FAR), -1);
    }

    private static void lotInManyUnits() {
        BatchHall hall = running(0, charge(0, 30, 0, 1), move(0, 1, 50, 2), move(1, 2, 20, 3),
                heat(0, 1, 4), end());
        ticks(hall, 4);
        Check.same("while it is moved", hall.lot(0, 2), 30);
        ticks(hall, 2);
        contentIs("unit 0", hall, 0, 0, 15);
        contentIs("unit 1", hall, 1, 0, 12);
        contentIs("unit 2", hall, 2, 0, 3);
        Check.same("in all units", hall.lot(0, 2), 30);
        Check.same("another what", hall.unitIs(0, 4), -1);
        Check.same("another what", hall.unitIs(0, -1), -1);
        Check.same("no such unit", hall.unitIs(6, 3), -1);
        Check.same("no such unit", hall.unitIs(-1, 3), -1);
        Check.same("no such unit", hall.content(6, 0, 0), -1);
        Check.same("no such unit", hall.content(-1, 0, 0), -1);
        Check.same("no such place", hall.content(0, -1, 0), -1);
        Check.same("another what", hall.content(0, 0, 2), -1);
        Check.same("another what", hall.content(0, 0, -1), -1);
    }

    /** A hall in which 99 lots were made, each a CHARGE of 1 into unit 0. */
    private static BatchHall nearlyFull() {
        BatchHall hall = new BatchHall();
        release(hall, 0, new int[] {0, 3, 3}, charge(0, 1, 0, 1), row(8, 5, 0, 0, 2, 0),
                row(8, 5, 0, 0, 3, 0), end());
        release(hall, 1, new int[] {0, 3, 3}, charge(0, 1, 0, 1), row(8, 2, 0, 0, 2, 0),
                end());
        release(hall, 2, new int[] {0, 0, 3}, fork(1, 2), react(0, 1, 3),
                react(1, 1, 3), join(4), end());
        release(hall, 3, new int[] {0, 3, 3}, charge(0, 0, 0, 1), end());
        for (int i = 0; i < 9; i++) {
            int recipe = i < 2 ? 0 : 1;
            hall.batch(recipe, 0);
            hall.start(i);
            ticks(hall, i < 2 ? 36 : 3);
            Check.same("it is over", hall.batchIs(i, 0), 7);
        }
        Check.same("lots by now", hall.lots(), 93);
        hall.batch(1, 0);
        hall.start(9);
        hall.batch(1, 0);
        hall.start(10);
        ticks(hall, 3);
        Check.same("lots", hall.lots(), 99);
        return hall;
    }

    private static void tooManyLotsByReact() {
        BatchHall hall = nearlyFull();
        hall.batch(2, 0);
        hall.batch(3, 0);
        Check.same("start", hall.start(11), 2);
        Check.same("96 in unit 0", hall.unitIs(0, 2), 96);
        Check.same("3 in unit 1", hall.unitIs(1, 2), 3);
        hall.tick();
        Check.same("one new lot, not two", hall.lots(), 100);
        Check.same("ABORTED", hall.batchIs(11, 0), 6);
        contentIs("the first REACT was done", hall, 0, 99, 96);
        Check.same("the second one was not", hall.unitIs(1, 2), 3);
        Check.same("no owner", hall.unitIs(1, 0), -1);
        Check.same("all went into it", hall.lot(99, 3), 96);
        Check.same("the last of its origins", hall.trace(99, false, 95), hall.from(99, 95, 0));
        Check.same("a CHARGE of nothing is ABORTED when it would begin", hall.start(12), 6);
        Check.same("no more lots", hall.lots(), 100);
        Check.same("none is busy", hall.tick(), 0);
    }

    private static void tooManyLotsByCharge() {
        BatchHall hall = nearlyFull();
        for (int i = 0; i < 3; i++) {
            hall.batch(1, 0);
        }
        Check.same("the hundredth", hall.start(11), 2);
        Check.same("one more", hall.start(12), 6);
        Check.same("none is busy then", hall.tick(), 0);
        Check.same("ABORTED where its LOOP goes back", hall.batchIs(11, 0), 6);
        Check.same("the hundredth lot has its amount", hall.lot(99, 2), 1);
        Check.same("lots", hall.lots(), 100);
    }

    private static void lotsOfManyBatches() {
        BatchHall hall = released(heat(0, 1, 1), charge(0, 10, 0, 2), end());
        for (int i = 0; i < 2; i++) {
            hall.batch(0, 0);
        }
        hall.start(1);
        hall.start(0);
        Check.same("none yet", hall.lots(), 0);
        hall.tick();
        Check.same("lots", hall.lots(), 2);
        Check.same("by number of the batch", hall.lot(0, 0), 0);
        Check.same("then the other", hall.lot(1, 0), 1);
        Check.same("the step", hall.lot(1, 1), 1);
        hall.tick();
        contentIs("the one started first has the first units", hall, 0, 1, 10);
        contentIs("the other one", hall, 3, 0, 10);
    }

    public static void main(String[] args) {
        charge();
        chargeOfNothing();
        moveByShares();
        moveOfEqualRests();
        moveTenByTen();
        moveOfNothing();
        reacts();
        lotInManyUnits();
        tooManyLotsByReact();
        tooManyLotsByCharge();
        lotsOfManyBatches();
        Check.end();
    }
}
