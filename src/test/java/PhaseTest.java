/** KINDS and A TICK (promises 8, 9, 14): how much and how long, at the edges that the document names. */
public final class PhaseTest extends Charts {
    /** The batch's only phase takes just so many ticks. */
    private static void takes(String what, int ticks, BatchHall hall) {
        for (int i = 1; i < ticks; i++) {
            Check.same(what + ": tick " + i, hall.tick(), 1);
        }
        Check.same(what + ": still at it", hall.token(0, 0), 16);
        Check.same(what + ": the last tick", hall.tick(), 0);
        stateIs(hall, 0, COMPLETE);
    }

    private static void chargeIs(int amount, int b, int c, int size) {
        String what = "CHARGE " + b + ", " + c + " at size " + size;
        BatchHall hall = running(size, charge(0, b, c, 1), end());
        takes(what, Math.max(1, (amount + 9) / 10), hall);
        Check.same(what, hall.lot(0, 2), amount);
        Check.same(what + " in its unit", hall.unitIs(0, 3), amount);
    }

    private static void chargeAmounts() {
        Check.about("role a gets b + c hundredths of the batch's size (without what is behind the point) of a new lot");
        chargeIs(0, 0, 0, 1000);
        chargeIs(7, 7, 0, 1000);
        chargeIs(7, 7, 500, 0);
        chargeIs(0, 0, 1, 99);
        chargeIs(1, 0, 1, 100);
        chargeIs(1, 0, 1, 199);
        chargeIs(2, 0, 1, 200);
        chargeIs(0, 0, 99, 1);
        chargeIs(3, 3, 50, 1);
        chargeIs(4, 3, 50, 2);
        chargeIs(5, 0, 500, 1);
        chargeIs(13, 3, 33, 31);
        chargeIs(38, 28, 1, 1000);
        chargeIs(500, 500, 0, 0);
        chargeIs(4500, 500, 500, 800);
    }

    private static void tenByTen() {
        Check.about("CHARGE, MOVE: 10, or what is left, if that is less");
        int[] amounts = {1, 9, 10, 11, 19, 20, 21};
        for (int amount : amounts) {
            BatchHall hall = running(0, charge(0, amount, 0, 1), move(0, 1, 100, 2), end());
            int ticks = (amount + 9) / 10;
            for (int i = 1; i <= ticks; i++) {
                Check.same("CHARGE " + amount + " has begun", hall.token(0, 0), 16);
                hall.tick();
                Check.same("CHARGE " + amount + " after " + i, hall.unitIs(0, 3), Math.min(10 * i, amount));
            }
            for (int i = 1; i <= ticks; i++) {
                Check.same("MOVE " + amount + " has begun", hall.token(0, 0), 17);
                hall.tick();
                Check.same("MOVE " + amount + " after " + i, hall.unitIs(1, 3), Math.min(10 * i, amount));
                Check.same("left of " + amount, hall.unitIs(0, 3), Math.max(0, amount - 10 * i));
            }
            stateIs(hall, 0, COMPLETE);
        }
    }

    private static void ofNothing() {
        Check.about("(What a CHARGE of 0, or a MOVE of nothing, has to do is done with the first tick.)");
        BatchHall charging = running(99, charge(0, 0, 1, 1), heat(1, 1, 2), end());
        tokensAre("CHARGE has begun", charging, 16);
        Check.same("its lot is made", charging.lots(), 1);
        charging.tick();
        tokensAre("CHARGE is done", charging, 17);
        Check.same("nothing of the lot", charging.lot(0, 2), 0);
        contentIs("nor in the unit", charging, 0);
        BatchHall empty = running(0, move(0, 1, 100, 1), heat(2, 1, 2), end());
        tokensAre("MOVE out of an empty unit has begun", empty, 16);
        empty.tick();
        tokensAre("MOVE out of an empty unit is done", empty, 17);
        BatchHall few = running(0, charge(0, 99, 0, 1), move(0, 1, 1, 2), heat(2, 1, 3), end());
        ticks(few, 10);
        tokensAre("MOVE of 0.99 has begun", few, 17);
        few.tick();
        tokensAre("MOVE of 0.99 is done", few, 18);
        contentIs("nothing came", few, 1);
        contentIs("all is there", few, 0, 0, 99);
    }

    private static void moveIs(int amount, int content, int c) {
        BatchHall hall = running(0, charge(0, content, 0, 1), move(0, 1, c, 2), end());
        ticks(hall, Math.max(1, (content + 9) / 10) + Math.max(1, (amount + 9) / 10));
        stateIs(hall, 0, COMPLETE);
        Check.same(c + " hundredths of " + content, hall.unitIs(1, 3), amount);
        Check.same("the rest of " + content, hall.unitIs(0, 3), content - amount);
    }

    private static void moveAmounts() {
        Check.about("c hundredths of what role a has, when it begins, into role b");
        moveIs(1, 100, 1);
        moveIs(1, 199, 1);
        moveIs(0, 1, 99);
        moveIs(1, 1, 100);
        moveIs(98, 99, 99);
        moveIs(250, 500, 50);
        moveIs(500, 500, 100);
    }

    /** MOVE waits till the CHARGE is done: what there was when its token came doesn't count. */
    private static void moveWhenItBegins() {
        Check.about("c hundredths of what role a has, when it begins, into role b");
        BatchHall hall = running(0, fork(1, 2), charge(0, 30, 0, 4), heat(1, 1, 3), move(0, 1, 50, 4), join(5), end());
        hall.tick();
        tokensAre("MOVE waits for role 0", hall, 17, 3);
        ticks(hall, 2);
        tokensAre("MOVE has begun", hall, 4, 19);
        hall.tick();
        contentIs("10 of 15", hall, 1, 0, 10);
        hall.tick();
        contentIs("15 of 30", hall, 1, 0, 15);
        stateIs(hall, 0, COMPLETE);
    }

    private static void heatTicks() {
        Check.about("HEAT: role a, for b ticks.");
        for (int ticks = 1; ticks <= 20; ticks++) {
            takes("HEAT " + ticks, ticks, running(0, heat(0, ticks, 1), end()));
        }
        Check.about("REACT: role a, for b ticks");
        for (int ticks = 1; ticks <= 20; ticks++) {
            takes("REACT " + ticks, ticks, running(0, react(0, ticks, 1), end()));
        }
    }

    private static void reactOfNothing() {
        Check.about("then all of its content is one new lot (nothing, if there is none)");
        BatchHall hall = running(0, react(0, 2, 1), charge(1, 5, 0, 2), react(0, 1, 3), react(1, 1, 4), end());
        ticks(hall, 2);
        Check.same("no lot but that of the CHARGE", hall.lots(), 1);
        Check.same("which is of step 1", hall.lot(0, 1), 1);
        ticks(hall, 2);
        Check.same("nothing is in unit 0, still", hall.lots(), 1);
        contentIs("unit 1 has not reacted yet", hall, 1, 0, 5);
        ticks(hall, 1);
        contentIs("one lot is enough for a new one", hall, 1, 1, 5);
        Check.same("lots", hall.lots(), 2);
        stateIs(hall, 0, COMPLETE);
    }

    private static void reactAtItsEnd() {
        Check.about("then all of its content is one new lot");
        BatchHall hall = running(0, charge(0, 5, 0, 1), react(0, 3, 2), end());
        ticks(hall, 3);
        contentIs("a tick before", hall, 0, 0, 5);
        Check.same("no new lot yet", hall.lots(), 1);
        hall.tick();
        contentIs("then", hall, 0, 1, 5);
    }

    private static void sampleSinceItBegan() {
        Check.about("(SAMPLE: when its name was measured since it began)");
        BatchHall hall = released(heat(0, 1, 1), sample(2, 2), sample(2, 3), loop(4, 2), end());
        hall.batch(0, 0);
        hall.measure(0, 2, 1);
        hall.start(0);
        hall.measure(0, 2, 2);
        hall.tick();
        hall.tick();
        tokensAre("not when it was MADE, nor before it began", hall, 17);
        hall.measure(0, 2, 2);
        tokensAre("not before the tick", hall, 17);
        hall.tick();
        tokensAre("with the value that it had", hall, 18);
        hall.tick();
        tokensAre("not for the next SAMPLE", hall, 18);
        hall.measure(0, 2, 0);
        hall.measure(0, 2, 0);
        hall.tick();
        tokensAre("nor twice for a SAMPLE that is come to again", hall, 18);
        hall.tick();
        tokensAre("it waits", hall, 18);
        hall.measure(0, 2, -1);
        Check.same("the last one", hall.tick(), 0);
    }

    private static void sampleWhileWaiting() {
        Check.about("(SAMPLE: when its name was measured since it began)");
        BatchHall hall = running(0, fork(1, 2), heat(0, 2, 3), sample(1, 3), join(4), end());
        tokensAre("SAMPLE waits for the role", hall, 17, 2);
        hall.measure(0, 1, 5);
        ticks(hall, 2);
        tokensAre("then it begins", hall, 3, 18);
        hall.tick();
        tokensAre("what was measured before doesn't count", hall, 3, 18);
        hall.measure(0, 1, 5);
        Check.same("what is measured now does", hall.tick(), 0);
    }

    private static void choiceBelow() {
        Check.about("CHOICE: NEXT, if what is measured for name a is below b, else OTHER.");
        int[][] cases = {{4, 5, 18}, {5, 5, 19}, {6, 5, 19}, {LOW, 5, 18}, {FAR, 5, 19}, {-1, 0, 18}, {0, 0, 19},
            {LOW, LOW, 19}, {FAR, FAR, 19}, {FAR - 1, FAR, 18}, {LOW, FAR, 18}, {FAR, LOW, 19}};
        for (int[] x : cases) {
            for (int name = 0; name < 4; name++) {
                BatchHall hall = running(0, sample(name, 1), row(7, name, x[1], 0, 2, 3), heat(4), heat(4), end());
                hall.measure(0, name, x[0]);
                hall.measure(0, (name + 1) % 4, 5 - x[0]);
                hall.tick();
                tokensAre(x[0] + " below " + x[1], hall, x[2]);
            }
        }
        BatchHall hall = running(0, sample(1, 1), row(7, 1, 5, 0, 2, 3), heat(4), heat(4), end());
        hall.measure(0, 1, 4);
        hall.measure(0, 1, 5);
        hall.tick();
        tokensAre("the last value counts", hall, 19);
    }

    /** A CHOICE that only a LOOP goes to: NEXT (step 4) if name 3 is below 5, else OTHER (step 3). */
    private static BatchHall choosing(int before) {
        BatchHall hall = new BatchHall();
        hall.unit(5, 1);
        release(hall, 0, new int[] {1, 3, 3}, heat(0, 2, 2), row(7, 3, before, 0, 2, 3), loop(4, 1), heat(5), heat(5),
                end());
        makeBatches(hall, 0, 0);
        return hall;
    }

    private static void measuredInEachState() {
        Check.about("A value is measured for a name of a batch (also of one that is MADE or WAITING)");
        for (int value = 4; value <= 5; value++) {
            for (int state = MADE; state <= HELD; state++) {
                BatchHall hall = choosing(5);
                measureIn(state, hall, value);
                ticks(hall, 2);
                tokensAre(value + " measured in state " + state, hall, value < 5 ? 20 : 19);
            }
        }
        Check.about("measured values (0 at first) by names");
        for (int before = 0; before < 2; before++) {
            BatchHall hall = choosing(before);
            hall.start(0);
            ticks(hall, 2);
            tokensAre("0 below " + before, hall, before == 1 ? 20 : 19);
        }
    }

    private static void measureIn(int state, BatchHall hall, int value) {
        if (state == MADE) {
            hall.measure(0, 3, value);
        }
        if (state == WAITING) {
            hall.start(1);
            hall.start(0);
            hall.measure(0, 3, value);
            hall.abort(1);
        } else {
            hall.start(0);
        }
        if (state == HELD) {
            hall.hold(0);
        }
        if (state >= RUNNING) {
            hall.measure(0, 3, value);
        }
        if (state == HELD) {
            hall.restart(0);
        }
        stateIs(hall, 0, RUNNING);
    }

    private static void loopTimes() {
        Check.about("LOOP: the first a times it is come to OTHER, then NEXT (and so on again).");
        for (int times = 1; times <= 5; times++) {
            BatchHall hall = running(0, heat(1), loop(times, 2, 0), end());
            for (int i = 0; i < times; i++) {
                Check.same("LOOP " + times + ", time " + i, hall.tick(), 1);
                tokensAre("back again", hall, 16);
            }
            Check.same("LOOP " + times + ", then NEXT", hall.tick(), 0);
        }
        for (int inner = 1; inner <= 5; inner += 2) {
            for (int outer = 1; outer <= 5; outer += 2) {
                BatchHall hall = running(0, heat(1), loop(inner, 2, 0), heat(1, 1, 3), loop(outer, 4, 0), end());
                for (int i = 0; i <= outer; i++) {
                    for (int j = 0; j <= inner; j++) {
                        tokensAre("round " + i + ", " + j, hall, 16);
                        hall.tick();
                    }
                    tokensAre("round " + i + " behind it", hall, 18);
                    hall.tick();
                }
                stateIs(hall, 0, COMPLETE);
            }
        }
    }

    private static void loopsOfOthers() {
        Check.about("LOOP: the first a times it is come to OTHER");
        BatchHall hall = new BatchHall();
        release(hall, 0, ONE_ROLE, heat(1), loop(2, 2, 0), loop(1, 3, 0), end());
        makeBatches(hall, 0, 0);
        hall.start(0);
        ticks(hall, 2);
        hall.start(1);
        Check.same("each LOOP and each batch counts for itself", runsOn(hall), 6);
    }

    private static int runsOn(BatchHall hall) {
        int ticks = 1;
        while (hall.tick() > 0 && ticks < 50) {
            ticks++;
        }
        return ticks;
    }

    private static void holdRests() {
        Check.about("A RUNNING batch is HELD (its phases rest; what is measured counts).");
        BatchHall hall = running(0, fork(1, 2), charge(0, 25, 0, 4), heat(1, 3, 3), row(4, 1, 0, 0, 4, 0), join(5),
                end());
        hall.tick();
        hall.hold(0);
        for (int i = 0; i < 5; i++) {
            Check.same("tick", hall.tick(), 1);
        }
        tokensAre("all phases rest", hall, 17, 18);
        contentIs("CHARGE rests", hall, 0, 0, 10);
        hall.restart(0);
        tokensAre("tokens stay", hall, 17, 18);
        hall.tick();
        contentIs("CHARGE goes on", hall, 0, 0, 20);
        tokensAre("HEAT goes on", hall, 17, 18);
        hall.tick();
        tokensAre("its last tick", hall, 4, 19);
        hall.hold(0);
        Check.yes("measured in between", hall.measure(0, 0, 1));
        hall.tick();
        tokensAre("it rests, though measured", hall, 4, 19);
        hall.restart(0);
        tokensAre("till the next tick", hall, 4, 19);
        Check.same("which is the last", hall.tick(), 0);
    }

    private static void stopWaits() {
        Check.about("if it is STOPPING, and no phase has begun, it is STOPPED");
        BatchHall hall = running(0, fork(1, 3), heat(0, 1, 2), heat(0, 1, 4), heat(1, 3, 4), join(5), heat(6), end());
        Check.same("stop", hall.stop(0), STOPPING);
        Check.same("tick 1", hall.tick(), 1);
        tokensAre("the first doesn't begin its next one", hall, 2, 19);
        Check.same("tick 2", hall.tick(), 1);
        tokensAre("nor later", hall, 2, 19);
        Check.same("tick 3", hall.tick(), 0);
        stateIs(hall, 0, STOPPED);
        BatchHall last = running(0, heat(1), end());
        last.stop(0);
        last.tick();
        stateIs(last, 0, STOPPED);
        BatchHall held = running(0, heat(0, 2, 1), heat(2), end());
        held.hold(0);
        Check.same("of one that is HELD", held.stop(0), STOPPING);
        Check.same("goes on", held.tick(), 1);
        Check.same("and ends", held.tick(), 0);
        stateIs(held, 0, STOPPED);
        BatchHall waits = running(0, fork(1, 2), heat(0, 1, 3), heat(0, 1, 3), join(4), end());
        tokensAre("one waits for the role", waits, 17, 2);
        waits.stop(0);
        Check.same("it doesn't begin any more", waits.tick(), 0);
        stateIs(waits, 0, STOPPED);
    }

    /** What is over in each of its ways: no tokens, no units; what is in those stays. */
    private static void over() {
        Check.about("COMPLETE, STOPPED and ABORTED batches have no tokens, and give back their units; what is in them"
                + " stays.");
        for (int state = STOPPED; state <= COMPLETE; state++) {
            BatchHall hall = running(0, charge(1, 15, 0, 1), end());
            hall.tick();
            if (state == STOPPED) {
                hall.stop(0);
            }
            if (state == ABORTED) {
                hall.abort(0);
            }
            Check.same("none is busy", hall.tick(), 0);
            stateIs(hall, 0, state);
            tokensAre("state " + state, hall);
            Check.same("phases", hall.batchIs(0, 4), 0);
            for (int i = 0; i < 3; i++) {
                Check.same("unitOf", hall.unitOf(0, i), -1);
                Check.same("owner", hall.unitIs(i, 0), -1);
            }
            contentIs("state " + state, hall, 1, 0, state == ABORTED ? 10 : 15);
        }
    }

    /** As many moves within a tick as 12 steps allow, some 20 million: a bound that is guessed too low fails here. */
    private static void loopsInLoops() {
        Check.about("at its turn a token goes on until it is at a phase, or waits at a JOIN");
        BatchHall hall = running(0, sample(0, 1), choice(0, 2, 2), loop(5, 3, 1), loop(5, 4, 1), loop(5, 5, 1),
                loop(5, 6, 1), loop(5, 7, 1), loop(5, 8, 1), loop(5, 9, 1), loop(5, 10, 1), loop(5, 11, 1), end());
        hall.measure(0, 0, 0);
        Check.same("COMPLETE within a tick", hall.tick(), 0);
        stateIs(hall, 0, COMPLETE);
    }

    public static void main(String[] args) {
        chargeAmounts();
        tenByTen();
        ofNothing();
        moveAmounts();
        moveWhenItBegins();
        heatTicks();
        reactOfNothing();
        reactAtItsEnd();
        sampleSinceItBegan();
        sampleWhileWaiting();
        choiceBelow();
        measuredInEachState();
        loopTimes();
        loopsOfOthers();
        holdRests();
        stopWaits();
        over();
        loopsInLoops();
        Check.end();
    }
}
