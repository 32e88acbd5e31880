/** Promise 6: RELEASE, its reasons each alone and two at once, BRANCHES, and what MAY NOT HAVE BEEN MEASURED. */
public final class ReleaseTest extends Charts {
    private static void due(String what, int want, int[]... rows) {
        Check.same(what, write(1, rows).release(1), want);
    }

    private static void exceptions() {
        Check.about("IllegalArgumentException: there is no such recipe. IllegalStateException: it is released.");
        BatchHall hall = write(0, end());
        for (int recipe : outside(4)) {
            Check.badArgument("release(" + recipe + ")", () -> hall.release(recipe));
        }
        Check.same("release(0)", hall.release(0), 0);
        Check.badState("release(0) again", () -> hall.release(0));
        Check.badState("and again", () -> hall.release(0));
        for (int unit = 0; unit < 6; unit++) {
            hall.unit(unit, 2);
        }
        Check.badState("though it would be refused now", () -> hall.release(0));
    }

    private static void edited() {
        Check.about("They are edited until they are RELEASED.");
        BatchHall hall = write(0, heat(1), heat(2));
        Check.same("refused", hall.release(0), 1);
        Check.same("and again", hall.release(0), 1);
        Check.same("a step more", hall.step(0, 9, 0, 0, 0), 2);
        Check.yes("a link more", hall.link(0, 0, 2, 0));
        Check.same("refused", hall.release(0), 2);
        Check.yes("the link as it was", hall.link(0, 0, 1, 0));
        Check.yes("a role more", hall.role(0, 1, 2));
        Check.same("refused", hall.release(0), 5);
        Check.yes("no such role", hall.role(0, 1, 3));
        Check.same("released", hall.release(0), 0);
        Check.same("no step more", hall.step(0, 9, 0, 0, 0), -1);
        Check.no("no link more", hall.link(0, 0, 2, 0));
        Check.no("no role more", hall.role(0, 1, 2));
        Check.no("not even the class that it has", hall.role(0, 0, 0));
        hall.batch(0, 0);
        hall.start(0);
        hall.tick();
        tokensAre("NEXT is as it was", hall, 17);
        Check.same("no unit for role 1", hall.unitOf(0, 1), -1);
        hall.tick();
        stateIs(hall, 0, COMPLETE);
    }

    /** A chart with just those of the faults 1 to 5 whose bits (1, 2, 4, 8, 16) are set. */
    private static BatchHall faulty(int faults) {
        boolean one = (faults & 1) != 0;
        boolean two = (faults & 2) != 0;
        boolean three = (faults & 4) != 0;
        boolean four = (faults & 8) != 0;
        boolean five = (faults & 16) != 0;
        BatchHall hall = write(0,
                four ? heat(1) : sample(0, 1),
                choice(0, 2, 2),
                heat(0, one ? 0 : 1, 3),
                three ? join(two ? 5 : 4) : heat(two ? 5 : 4),
                heat(5),
                end());
        hall.role(0, 2, five ? 2 : 3);
        return hall;
    }

    private static void reasons() {
        Check.about("RELEASE refuses with the first of these");
        for (int faults = 0; faults < 32; faults++) {
            int first = faults == 0 ? 0 : Integer.numberOfTrailingZeros(faults) + 1;
            Check.same("the faults " + Integer.toBinaryString(faults), faulty(faults).release(0), first);
        }
        BatchHall hall = new BatchHall();
        Check.same("no steps", hall.release(0), 1);
        hall.role(0, 0, 2);
        Check.same("no steps, and no units", hall.release(0), 1);
    }

    private static void reached() {
        Check.about("2 a step can't be come to from step 0 by NEXT and OTHER");
        due("step 1 behind an END", 2, end(), end());
        due("what END's NEXT and OTHER name", 2, row(9, 0, 0, 0, 1, 1), end());
        due("one left out", 2, heat(2), heat(2), end());
        due("the last one left out", 2, heat(1), end(), end());
        due("two that only come to one another", 2, heat(3), heat(2), loop(3, 1), end());
        due("one that only comes to others", 2, heat(2), heat(2), end());
        due("by NEXT of all", 0, heat(1), heat(2), end());
        due("by OTHER of a CHOICE", 0, sample(0, 1), choice(0, 2, 3), end(), end());
        due("by NEXT of a CHOICE", 0, sample(0, 1), choice(0, 3, 2), end(), end());
        due("by OTHER of a FORK", 0, fork(2, 1), heat(3), heat(3), join(4), end());
        due("by OTHER of a LOOP", 0, heat(2), heat(2), loop(3, 1), end());
        due("by OTHER of a LOOP, then by NEXT", 0, heat(3), heat(2), heat(3), loop(4, 1), end());
        due("back, and from there back again", 0, heat(5), heat(2), heat(3), loop(5, 1), loop(5, 3), loop(6, 4), end());
        due("back to the first of two, not the second", 2, heat(3), heat(3), heat(3), loop(4, 1), end());
    }

    private static void ofTheirOwn() {
        Check.about("NEXT and OTHER of a FORK begin two branches of their own");
        due("two branches", 0, fork(1, 2), heat(3), heat(3), join(4), end());
        due("one step for both", 3, fork(1, 1), heat(2), join(3), end());
        due("one branch runs into the other", 3, fork(1, 2), heat(2), heat(3), join(4), end());
        due("a FORK in a branch", 0, fork(1, 5), fork(2, 3), heat(4), heat(4), join(6), heat(6), join(7), end());
        due("a FORK in the other branch", 0, fork(1, 2), heat(6), fork(3, 4), heat(5), heat(5), join(6), join(7),
                end());
        due("FORKs in both", 0, fork(1, 2), fork(3, 4), fork(5, 6), heat(7), heat(7), heat(8), heat(8), join(9),
                join(9),
                join(10), end());
        due("two one behind the other", 0, fork(1, 2), heat(3), heat(3), join(4), fork(5, 6), heat(7), heat(7), join(8),
                end());
    }

    private static void twoOfOneFork() {
        Check.about("they must be just the two of one FORK");
        due("a JOIN without a FORK", 3, heat(1), join(2), end());
        due("a JOIN is the first step", 3, join(1), end());
        due("a JOIN is the first step, come back to", 3, join(1), loop(2, 0), end());
        due("a JOIN in one branch", 3, fork(1, 3), heat(2), join(4), heat(4), join(5), end());
        due("a JOIN behind the JOIN", 3, fork(1, 2), heat(3), heat(3), join(4), join(5), end());
        due("a JOIN for three", 3, fork(1, 4), fork(2, 3), heat(5), heat(5), heat(5), join(6), end());
        due("of an inner and of an outer one", 3, fork(1, 4), fork(2, 3), heat(5), heat(6), heat(5), join(6), join(7),
                end());
        due("of two FORKs", 3, sample(0, 1), choice(0, 2, 5), fork(3, 4), heat(8), heat(8), fork(6, 7), heat(8),
                heat(8),
                join(9), end());
        due("one of each of two FORKs", 3, fork(1, 2), fork(3, 4), fork(5, 6), heat(7), heat(8), heat(7), heat(8),
                join(9), join(9), join(10), end());
        due("with a LOOP to the JOIN from behind", 3, fork(1, 2), heat(3), heat(3), join(4), loop(5, 3), end());
        due("with a CHOICE to the JOIN from before", 3, sample(0, 1), choice(0, 2, 5), fork(3, 4), heat(5), heat(5),
                join(6), end());
        due("one branch comes in two ways", 0, sample(0, 1), fork(2, 3), choice(0, 4, 5), heat(6), heat(6), heat(6),
                join(7), end());
    }

    private static void oneStepEach() {
        Check.about("(one step each at least)");
        due("NEXT is the JOIN", 3, fork(2, 1), heat(2), join(3), end());
        due("OTHER is the JOIN", 3, fork(1, 2), heat(2), join(3), end());
        due("both are", 3, fork(1, 1), join(2), end());
        due("one step each", 0, fork(1, 2), heat(3), heat(3), join(4), end());
        due("a CHOICE is a step, too", 0, sample(0, 1), fork(2, 3), choice(0, 4, 4), choice(0, 4, 4), join(5), end());
        due("an inner FORK with its JOIN", 0, fork(1, 2), heat(6), fork(3, 4), heat(5), heat(5), join(6), join(7),
                end());
        due("an inner one's branch has none", 3, fork(1, 2), heat(5), fork(3, 4), heat(4), join(5), join(6), end());
    }

    private static void inThatForksBranch() {
        Check.about("it is in that FORK's branch itself");
        due("END behind the JOIN", 0, fork(1, 2), heat(3), heat(3), join(4), end());
        due("END behind the inner JOIN", 3, fork(1, 2), heat(6), fork(3, 4), heat(5), heat(5), join(7), join(8), end(),
                end());
        due("a LOOP behind it to the FORK", 0, fork(1, 2), heat(3), heat(3), join(4), loop(5, 0), end());
        due("a LOOP behind it to before the FORK", 0, heat(1), fork(2, 3), heat(4), heat(4), join(5), loop(6, 0),
                end());
        due("a CHOICE past all of it", 0, sample(0, 1), choice(0, 2, 6), fork(3, 4), heat(5), heat(5), join(6), end());
        due("a LOOP behind the inner JOIN to the inner FORK", 0, fork(1, 2), heat(7), fork(3, 4), heat(5), heat(5),
                join(6), loop(7, 2), join(8), end());
        due("a LOOP behind the inner JOIN to the outer FORK", 3, fork(1, 2), heat(7), fork(3, 4), heat(5), heat(5),
                join(6), loop(7, 0), join(8), end());
    }

    private static void oneBranch() {
        Check.about("Each step is in one branch.");
        due("a LOOP within a branch", 0, fork(1, 3), heat(2), loop(4, 1), heat(4), join(5), end());
        due("a LOOP out of a branch", 3, heat(1), fork(2, 4), heat(3), loop(5, 0), heat(5), join(6), end());
        due("a LOOP out of a branch to its FORK", 3, fork(1, 3), heat(2), loop(4, 0), heat(4), join(5), end());
        due("a LOOP into a branch", 3, fork(1, 2), heat(3), heat(3), join(4), loop(5, 1), end());
        due("a LOOP from one branch to the other", 3, fork(1, 2), heat(4), heat(3), loop(4, 1), join(5), end());
        due("a CHOICE from one branch to the other", 3, sample(0, 1), fork(2, 3), choice(0, 3, 4), heat(4), join(5),
                end());
        due("a CHOICE into a branch", 3, sample(0, 1), choice(0, 2, 3), fork(3, 4), heat(5), heat(5), join(6), end());
        due("a CHOICE within a branch", 0, sample(0, 1), fork(2, 5), choice(0, 3, 4), heat(6), heat(6), heat(6),
                join(7),
                end());
    }

    private static void ends() {
        Check.about("An END is in branch 0.");
        due("two ENDs", 0, sample(0, 1), choice(0, 2, 3), end(), end());
        due("NEXT of a FORK", 3, fork(1, 2), end(), heat(3), end());
        due("OTHER of a FORK", 3, fork(1, 2), heat(3), end(), end());
        due("both branches", 3, fork(1, 2), end(), end());
        due("both come to one", 3, fork(1, 2), heat(3), heat(3), end());
        due("beside the JOIN", 3, sample(0, 1), fork(2, 3), choice(0, 4, 5), heat(4), join(6), end(), end());
    }

    private static void oneJoinForBoth() {
        Check.about("Each branch of a FORK ends with one JOIN, the same for both.");
        due("one JOIN each", 3, fork(1, 2), heat(3), heat(4), join(5), join(5), end());
        due("one branch ends with two", 3, sample(0, 1), fork(2, 3), choice(0, 4, 5), heat(4), join(5), join(6), end());
        due("both end with two", 3, sample(0, 1), fork(2, 3), choice(0, 4, 5), choice(0, 4, 5), join(6), join(6),
                end());
        due("both end with two, one behind the other", 3, sample(0, 1), fork(2, 3), choice(0, 4, 5), choice(0, 4, 5),
                join(5), join(6), end());
    }

    private static void measured() {
        Check.about("A name MAY NOT HAVE BEEN MEASURED at a step, if on a way from step 0 to it .."
                + " there is no SAMPLE of it before it");
        due("a CHOICE first", 4, choice(0, 1, 1), end());
        due("SAMPLE behind it", 4, heat(1), choice(0, 2, 2), sample(0, 3), end());
        for (int name = 0; name < 4; name++) {
            for (int other = 0; other < 4; other++) {
                due("name " + other + " for " + name, name == other ? 0 : 4, sample(other, 1), choice(name, 2, 2),
                        end());
            }
        }
        due("steps between them", 0, sample(0, 1), heat(2), loop(3, 1), choice(0, 4, 4), end());
        due("by NEXT of a CHOICE", 4, sample(0, 1), choice(0, 2, 3), sample(1, 3), choice(1, 4, 4), end());
        due("by OTHER of a CHOICE", 4, sample(0, 1), choice(0, 3, 2), sample(1, 3), choice(1, 4, 4), end());
        due("by both", 0, sample(0, 1), choice(0, 2, 3), sample(1, 4), sample(1, 4), choice(1, 5, 5), end());
        due("the second of two CHOICEs", 4, sample(0, 1), choice(0, 2, 2), choice(1, 3, 3), end());
        due("the last CHOICE of all", 4, sample(0, 1), heat(2), heat(3), heat(4), heat(5), heat(6), heat(7), heat(8),
                heat(9), heat(10), choice(3, 11, 11), end());
    }

    private static void measuredInLoops() {
        Check.about("(by NEXT and OTHER, but not by OTHER of a LOOP)");
        due("only where a LOOP goes back to", 4, heat(2), sample(0, 2), loop(3, 1), choice(0, 4, 4), end());
        due("the way back needs no SAMPLE", 0, sample(0, 1), choice(0, 2, 2), loop(3, 1), end());
        due("a LOOP back to before the SAMPLE", 0, heat(1), sample(0, 2), choice(0, 3, 3), loop(4, 0), end());
        due("SAMPLE comes in the first round, but behind", 4, heat(1), choice(0, 2, 2), sample(0, 3), loop(4, 0),
                end());
        Check.about("(Where there is no such way, it is measured.)");
        due("a CHOICE to which only a LOOP goes back", 0, heat(2), choice(3, 2, 2), loop(3, 1), end());
        due("one behind it", 0, heat(3), heat(2), choice(3, 3, 3), loop(4, 1), end());
        due("but not behind the LOOP", 4, heat(2), choice(3, 2, 2), loop(3, 1), choice(3, 4, 4), end());
        due("a FORK to which only a LOOP goes back", 0, heat(6), fork(2, 3), heat(4), heat(4), join(5), choice(2, 6, 6),
                loop(7, 1), end());
    }

    private static void measuredInBranches() {
        Check.about("for a JOIN, and what comes behind, it is enough if it is measured in one of the two branches");
        due("by NEXT", 0, fork(1, 2), sample(0, 3), heat(3), join(4), choice(0, 5, 5), end());
        due("by OTHER", 0, fork(1, 2), heat(3), sample(0, 3), join(4), choice(0, 5, 5), end());
        due("in both", 0, fork(1, 2), sample(0, 3), sample(0, 3), join(4), choice(0, 5, 5), end());
        due("in neither", 4, fork(1, 2), heat(3), heat(3), join(4), choice(0, 5, 5), end());
        due("before the FORK", 0, sample(0, 1), fork(2, 3), heat(4), heat(4), join(5), choice(0, 6, 6), end());
        due("before the FORK, for one in a branch", 0, sample(0, 1), fork(2, 3), heat(4), choice(0, 4, 4), join(5),
                end());
        due("farther behind", 0, fork(1, 2), sample(0, 3), heat(3), join(4), heat(5), choice(0, 6, 6), end());
        due("in the branch beside", 4, fork(1, 2), sample(0, 3), choice(0, 3, 3), join(4), end());
        due("in the branch beside, the other way round", 4, fork(1, 2), choice(0, 3, 3), sample(0, 3), join(4), end());
        due("a name in each", 0, fork(1, 2), sample(0, 3), sample(1, 3), join(4), choice(0, 5, 5), choice(1, 6, 6),
                end());
        due("in an inner branch", 0, fork(1, 2), heat(6), fork(3, 4), sample(0, 5), heat(5), join(6), join(7),
                choice(0, 8, 8), end());
        due("in an inner branch, for the outer beside it", 4, fork(1, 2), choice(0, 6, 6), fork(3, 4), sample(0, 5),
                heat(5), join(6), join(7), end());
    }

    private static void measuredOnWaysOfABranch() {
        Check.about("for a JOIN, and what comes behind, it is enough if it is measured in one of the two branches");
        due("on one way of one branch", 4, sample(0, 1), fork(2, 5), choice(0, 3, 4), sample(1, 6), heat(6), heat(6),
                join(7), choice(1, 8, 8), end());
        due("on the other way of it", 4, sample(0, 1), fork(2, 5), choice(0, 3, 4), heat(6), sample(1, 6), heat(6),
                join(7), choice(1, 8, 8), end());
        due("on both ways of it", 0, sample(0, 1), fork(2, 5), choice(0, 3, 4), sample(1, 6), sample(1, 6), heat(6),
                join(7), choice(1, 8, 8), end());
        due("on one way here, on all there", 0, sample(0, 1), fork(2, 5), choice(0, 3, 4), sample(1, 6), heat(6),
                sample(1, 6), join(7), choice(1, 8, 8), end());
        due("past the FORK there is a way without", 4, sample(0, 1), choice(0, 2, 6), fork(3, 4), sample(1, 5), heat(5),
                join(6), choice(1, 7, 7), end());
    }

    private static BatchHall unitsForRoles(int group, int roles, int there) {
        BatchHall hall = write(0, end());
        for (int role = 0; role < 3; role++) {
            hall.role(0, role, role < roles ? group : 3);
        }
        for (int unit = 0; unit < 6; unit++) {
            hall.unit(unit, unit >= 6 - there ? group : (group + 1) % 3);
        }
        return hall;
    }

    private static void enoughUnits() {
        Check.about("5 for the classes of the roles there aren't enough different units");
        for (int group = 0; group < 3; group++) {
            for (int roles = 1; roles <= 3; roles++) {
                for (int there = 0; there <= 6; there++) {
                    Check.same(there + " units for " + roles + " roles of class " + group,
                            unitsForRoles(group, roles, there).release(0), there < roles ? 5 : 0);
                }
            }
        }
        BatchHall hall = write(0, end());
        for (int role = 0; role < 3; role++) {
            hall.role(0, role, role);
        }
        Check.same("enough of class 0 alone", hall.release(0), 5);
        hall.unit(0, 2);
        Check.same("none of class 1", hall.release(0), 5);
        hall.unit(0, 1);
        Check.same("none of class 2", hall.release(0), 5);
        hall.unit(5, 2);
        Check.same("one of each", hall.release(0), 0);
        BatchHall none = new BatchHall();
        append(none, 0, NO_ROLES, end());
        Check.same("no role has a class", none.release(0), 0);
    }

    private static void unitsWithOwners() {
        Check.about("5 for the classes of the roles there aren't enough different units");
        BatchHall busy = released(heat(1), end());
        makeBatches(busy, 0, 0);
        busy.start(0);
        busy.start(1);
        append(busy, 1, new int[] {0, 0, 0}, end());
        Check.same("those that have an owner are there, too", busy.release(1), 0);
    }

    public static void main(String[] args) {
        exceptions();
        edited();
        reasons();
        reached();
        ofTheirOwn();
        twoOfOneFork();
        oneStepEach();
        inThatForksBranch();
        oneBranch();
        ends();
        oneJoinForBoth();
        measured();
        measuredInLoops();
        measuredInBranches();
        measuredOnWaysOfABranch();
        enoughUnits();
        unitsWithOwners();
        Check.end();
    }
}
