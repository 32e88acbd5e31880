/** Promises 18 to 23: unitIs, content, lot, from, trace, lots, and what CHARGE, MOVE and REACT do. */
public final class MaterialTest extends Charts {
    private static void charge() {
        Check.about("role a gets b + c hundredths of the batch's size (without what is behind the point) of a new lot");
        BatchHall hall = running(199, charge(1, 13, 5, 1), heat(0, 1, 2), end());
        Check.same("the lot is there when it begins", hall.lots(), 1);
        contentIs("nothing yet", hall, 1);
        hall.tick();
        contentIs("10 each tick", hall, 1, 0, 10);
        ticks(hall, 2);
        contentIs("13 and 9, for 9.95", hall, 1, 0, 22);
        Check.same("the next step", hall.token(0, 0), 17);
        contentIs("another unit", hall, 0);
        ticks(hall, 1);
        contentIs("what is in a unit stays", hall, 1, 0, 22);
        hall.batch(0, 1000);
        hall.start(1);
        ticks(hall, 6);
        contentIs("behind all", hall, 1, 0, 22, 1, 60);
        hall.abort(1);
        contentIs("of an ABORTED one, too", hall, 1, 0, 22, 1, 60);
    }

    private static void moveByShares() {
        Check.about("MOVING an amount x out of a content of y");
        // 5, 3 and 4 in unit 0: of 12 there are 8 to be moved, at once.
        BatchHall hall = running(0, charge(0, 5, 0, 1), charge(0, 3, 0, 2), charge(0, 4, 0, 3),
                move(0, 1, 67, 4), move(1, 0, 100, 5), end());
        ticks(hall, 3);
        contentIs("before", hall, 0, 0, 5, 1, 3, 2, 4);
        ticks(hall, 1);
        // 40/12 is 3 rest 4, 24/12 is 2 rest 0, 32/12 is 2 rest 8: the one that lacks is of lot 2.
        contentIs("what is left", hall, 0, 0, 2, 1, 1, 2, 1);
        contentIs("what came", hall, 1, 0, 3, 1, 2, 2, 3);
        ticks(hall, 1);
        contentIs("all of it", hall, 1);
        contentIs("to the same lots", hall, 0, 0, 5, 1, 3, 2, 4);
    }

    private static void moveTenByTen() {
        Check.about("CHARGE, MOVE: 10, or what is left, if that is less");
        BatchHall hall = running(0, charge(0, 30, 0, 1), move(0, 1, 85, 2), end());
        ticks(hall, 3);
        Check.same("MOVE has begun", hall.token(0, 0), 17);
        contentIs("nothing is moved yet", hall, 1);
        ticks(hall, 1);
        contentIs("10", hall, 1, 0, 10);
        ticks(hall, 1);
        contentIs("20 of the 25 for 25.5", hall, 1, 0, 20);
        Check.same("not done", hall.batchIs(0, 0), 2);
        ticks(hall, 1);
        contentIs("25", hall, 1, 0, 25);
        contentIs("what is left", hall, 0, 0, 5);
        Check.same("done", hall.batchIs(0, 0), 7);
    }

    private static void reacts() {
        Check.about("REACT: each lot of the content goes INTO the new one, with its amount.");
        BatchHall hall = running(0, react(2, 1, 1), charge(0, 8, 0, 2), charge(0, 7, 0, 3),
                move(0, 1, 40, 4), react(0, 2, 5), react(1, 1, 6), charge(0, 1, 0, 7),
                move(1, 0, 100, 8), react(0, 1, 9), end());
        ticks(hall, 1);
        Check.same("nothing there: no lot but that of the CHARGE", hall.lots(), 1);
        ticks(hall, 4);
        contentIs("a tick is left", hall, 0, 0, 5, 1, 4);
        Check.same("no new lot", hall.lots(), 2);
        ticks(hall, 2);
        contentIs("lot 2", hall, 0, 2, 9);
        contentIs("lot 3", hall, 1, 3, 6);
        ticks(hall, 3);
        contentIs("lot 5", hall, 0, 5, 16);
        Check.same("lots", hall.lots(), 6);
        lotsAre(hall);
        fromIs(hall);
        tracesAre(hall);
    }

    private static void lotsAre(BatchHall hall) {
        int[][] want = {{0, 1, 0, 0, 2}, {0, 2, 0, 0, 2}, {0, 4, 0, 2, 1}, {0, 5, 0, 2, 1}, {0, 6, 0, 0, 1},
            {0, 8, 16, 3, 0}};
        for (int lot = 0; lot < 6; lot++) {
            for (int what = 0; what < 5; what++) {
                Check.same("lot(" + lot + ", " + what + ")", hall.lot(lot, what), want[lot][what]);
            }
            Check.same("another what", hall.lot(lot, 5), -1);
            Check.same("another what", hall.lot(lot, -1), -1);
        }
        Check.same("no such lot", hall.lot(6, 0), -1);
        Check.same("no such lot", hall.lot(-1, 0), -1);
        Check.same("no such lot", hall.lot(FAR, 0), -1);
    }

    private static void fromIs(BatchHall hall) {
        int[][] want = {{}, {}, {0, 5, 1, 4}, {0, 3, 1, 3}, {}, {2, 9, 4, 1, 3, 6}};
        for (int lot = 0; lot < 6; lot++) {
            int count = want[lot].length / 2;
            for (int i = 0; i < count; i++) {
                Check.same("from(" + lot + ", " + i + ", 0)", hall.from(lot, i, 0), want[lot][2 * i]);
                Check.same("from(" + lot + ", " + i + ", 1)", hall.from(lot, i, 1), want[lot][2 * i + 1]);
                Check.same("another what", hall.from(lot, i, 2), -1);
                Check.same("another what", hall.from(lot, i, -1), -1);
            }
            Check.same("none more", hall.from(lot, count, 0), -1);
            Check.same("none before", hall.from(lot, -1, 0), -1);
        }
        Check.same("no such lot", hall.from(6, 0, 0), -1);
        Check.same("no such lot", hall.from(-1, 0, 0), -1);
    }

    private static void tracesAre(BatchHall hall) {
        int[][] origins = {{}, {}, {0, 1}, {0, 1}, {}, {0, 1, 2, 3, 4}};
        int[][] outcomes = {{2, 3, 5}, {2, 3, 5}, {5}, {5}, {5}, {}};
        for (int lot = 0; lot < 6; lot++) {
            traceIs(hall, lot, false, origins[lot]);
            traceIs(hall, lot, true, outcomes[lot]);
        }
        Check.same("no such lot", hall.trace(6, false, 0), -1);
        Check.same("no such lot", hall.trace(-1, true, 0), -1);
        Check.same("no such lot", hall.trace(FAR, true, FAR), -1);
    }

    private static void traceIs(BatchHall hall, int lot, boolean outcomes, int[] want) {
        String what = "trace(" + lot + ", " + outcomes + ")";
        for (int i = 0; i < want.length; i++) {
            Check.same(what + " " + i, hall.trace(lot, outcomes, i), want[i]);
        }
        Check.same(what + " none more", hall.trace(lot, outcomes, want.length), -1);
        Check.same(what + " none before", hall.trace(lot, outcomes, -1), -1);
        Check.same(what + " none far", hall.trace(lot, outcomes, FAR), -1);
    }

    private static void lotInManyUnits() {
        Check.about("2 how much of it there is in all units");
        BatchHall hall = running(0, charge(0, 30, 0, 1), move(0, 1, 50, 2), move(1, 2, 20, 3),
                heat(0, 1, 4), end());
        ticks(hall, 4);
        Check.same("while it is moved", hall.lot(0, 2), 30);
        ticks(hall, 2);
        contentIs("unit 0", hall, 0, 0, 15);
        contentIs("unit 1", hall, 1, 0, 12);
        contentIs("unit 2", hall, 2, 0, 3);
        Check.same("in all units", hall.lot(0, 2), 30);
        Check.same("another what", hall.unitIs(0, 4), -1);
        Check.same("another what", hall.unitIs(0, -1), -1);
        Check.same("no such unit", hall.unitIs(6, 3), -1);
        Check.same("no such unit", hall.unitIs(-1, 3), -1);
        Check.same("no such unit", hall.content(6, 0, 0), -1);
        Check.same("no such unit", hall.content(-1, 0, 0), -1);
        Check.same("no such place", hall.content(0, -1, 0), -1);
        Check.same("another what", hall.content(0, 0, 2), -1);
        Check.same("another what", hall.content(0, 0, -1), -1);
    }

    public static void main(String[] args) {
        charge();
        moveByShares();
        moveTenByTen();
        reacts();
        lotInManyUnits();
        Check.end();
    }
}
