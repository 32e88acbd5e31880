/** Promises 2 to 5: unit, role, step, link. */
public final class RecipeTest extends Charts {
    private static void unit() {
        Check.about("A unit has a class; false if there are none such, or it has an owner.");
        BatchHall owned = released(heat(1), end());
        makeBatches(owned, 0, 0);
        Check.yes("a batch that is MADE owns none", owned.unit(2, 0));
        owned.start(0);
        for (int unit = 0; unit < 3; unit++) {
            Check.no("an owned one", owned.unit(unit, 1));
            Check.no("an owned one, by its own class", owned.unit(unit, 0));
            Check.same("its class", owned.unitIs(unit, 1), 0);
        }
        for (int unit = 3; unit < 6; unit++) {
            Check.yes("one without an owner", owned.unit(unit, 1));
            Check.same("its class", owned.unitIs(unit, 1), 1);
        }
        owned.start(1);
        Check.yes("a batch that is WAITING owns none", owned.unit(5, 2));
        owned.hold(0);
        Check.no("of one that is HELD", owned.unit(2, 1));
        owned.stop(0);
        Check.no("of one that is STOPPING", owned.unit(2, 1));
        owned.abort(1);
        owned.abort(0);
        Check.yes("one given back", owned.unit(2, 1));
        Check.same("its class", owned.unitIs(2, 1), 1);
    }

    private static void role() {
        Check.about("A role of a recipe has a class, or none (3); false if there are none such, or it is released.");
        BatchHall hall = write(0, heat(1), end());
        Check.yes("role(0, 0, 3)", hall.role(0, 0, 3));
        Check.same("a role without a class", hall.release(0), 1);
        Check.yes("role(0, 0, 2)", hall.role(0, 0, 2));
        Check.same("no unit of class 2", hall.release(0), 5);
        Check.yes("role(0, 0, 1)", hall.role(0, 0, 1));
        hall.unit(4, 1);
        Check.same("released", hall.release(0), 0);
        for (int group = 0; group < 4; group++) {
            Check.no("a released one's role", hall.role(0, 0, group));
        }
        Check.yes("another recipe's", hall.role(1, 0, 1));
        hall.batch(0, 0);
        hall.start(0);
        Check.same("the unit for role 0", hall.unitOf(0, 0), 4);
    }

    private static void step() {
        Check.about("A step comes behind the others of a recipe (SOUND or not, without NEXT and OTHER): its number");
        BatchHall hall = new BatchHall();
        Check.same("not SOUND, but there", hall.step(0, 0, FAR, LOW, FAR), 0);
        Check.same("behind it", hall.step(0, 9, 0, 0, 0), 1);
        Check.same("another recipe's first", hall.step(3, 9, 0, 0, 0), 0);
        Check.same("not SOUND", hall.release(0), 1);
        Check.same("released", hall.release(3), 0);
        Check.same("a step for a released one", hall.step(3, 9, 0, 0, 0), -1);
        hall.role(2, 0, 0);
        hall.step(2, 1, 0, 1, 0);
        hall.step(2, 9, 0, 0, 0);
        Check.same("a step has no NEXT at first", hall.release(2), 1);
        hall.link(2, 0, 1, 0);
        Check.same("then it has", hall.release(2), 0);
        Check.same("END needs none", hall.batch(3, 0), 0);
    }

    private static void stepWithoutOther() {
        Check.about("A step comes behind the others of a recipe (SOUND or not, without NEXT and OTHER): its number");
        BatchHall hall = new BatchHall();
        hall.role(0, 0, 0);
        hall.step(0, 1, 0, 1, 0);
        hall.link(0, 0, 1, 0);
        Check.same("a LOOP", hall.step(0, 8, 1, 0, 0), 1);
        hall.step(0, 9, 0, 0, 0);
        hall.link(0, 1, 2, -1);
        Check.same("OTHER is none", hall.release(0), 1);
        hall.link(0, 1, 2, 0);
        Check.same("OTHER is step 0", hall.release(0), 0);
    }

    private static void link() {
        Check.about("A step's NEXT and OTHER (any numbers); false if there is no such recipe or step, or it is"
                + " released.");
        BatchHall hall = new BatchHall();
        for (int step : outside(0)) {
            Check.no("no steps at all", hall.link(0, step, 0, 0));
        }
        hall.role(0, 0, 0);
        hall.step(0, 1, 0, 1, 0);
        hall.step(0, 9, 0, 0, 0);
        for (int step : outside(2)) {
            Check.no("no such step", hall.link(0, step, 0, 0));
        }
        Check.no("not even if another recipe had it", hall.link(1, 0, 0, 0));
        Check.yes("any numbers", hall.link(0, 0, FAR, LOW));
        Check.yes("any numbers", hall.link(0, 1, LOW, FAR));
        Check.same("which aren't SOUND", hall.release(0), 1);
        Check.yes("the last of its links counts", hall.link(0, 0, 1, FAR));
        Check.same("released", hall.release(0), 0);
        Check.no("a released one's link", hall.link(0, 0, 1, 0));
        Check.no("a released one's, to no step", hall.link(0, 0, -1, -1));
        hall.batch(0, 0);
        hall.start(0);
        Check.same("NEXT is as it was", hall.tick(), 0);
    }

    public static void main(String[] args) {
        unit();
        role();
        step();
        stepWithoutOther();
        link();
        Check.end();
    }
}
