import java.util.Arrays;

/** A desk that runs batches by recipes; the promises it keeps are numbered in the document. */
public final class BatchHall {
    public static final int NONE = -1;

    private static final int UNITS = 6;
    private static final int GROUPS = 3;
    private static final int NO_GROUP = 3;
    private static final int RECIPES = 4;
    private static final int ROLES = 3;
    private static final int STEPS = 12;
    private static final int NAMES = 4;
    private static final int BATCHES = 16;
    private static final int TOKENS = 8;
    private static final int LOTS = 100;
    private static final int MAX_SIZE = 1000;
    private static final int MAX_CHARGE = 500;
    private static final int MAX_TICKS = 20;
    private static final int MAX_ROUNDS = 5;
    private static final int PORTION = 10;
    private static final int BEGUN_MARK = 16;

    // Loops inside loops come to less than 12 times 6 to the 10th moves, which is below this.
    private static final int MOVES_BOUND = 1 << 30;

    private static final int CHARGE = 0;
    private static final int HEAT = 1;
    private static final int MOVE = 2;
    private static final int REACT = 3;
    private static final int SAMPLE = 4;
    private static final int FORK = 5;
    private static final int JOIN = 6;
    private static final int CHOICE = 7;
    private static final int LOOP = 8;
    private static final int END = 9;
    private static final int KINDS = 10;

    private static final int MADE = 0;
    private static final int WAITING = 1;
    private static final int RUNNING = 2;
    private static final int HELD = 3;
    private static final int STOPPING = 4;
    private static final int STOPPED = 5;
    private static final int ABORTED = 6;
    private static final int COMPLETE = 7;

    private static final int[] NO_PARTS = {};

    private final Recipe[] recipes = new Recipe[RECIPES];
    private final Batch[] batches = new Batch[BATCHES];
    private int batchCount;
    private final ReleaseCheck releaseCheck = new ReleaseCheck();
    private final Floor floor = new Floor();
    private final Unit[] units = floor.units;
    private final LotBook book = floor.book;

    public BatchHall() {
        for (int i = 0; i < RECIPES; i++) {
            recipes[i] = new Recipe();
        }
    }

    public boolean unit(int unit, int group) {
        if (!isBelow(unit, UNITS) || !isBelow(group, GROUPS) || units[unit].owner != NONE) {
            return false;
        }
        units[unit].group = group;
        return true;
    }

    public boolean role(int recipe, int role, int group) {
        if (!isEditable(recipe) || !isBelow(role, ROLES)) {
            return false;
        }
        if (!isBelow(group, GROUPS) && group != NO_GROUP) {
            return false;
        }
        recipes[recipe].groups[role] = group;
        return true;
    }

    public int step(int recipe, int kind, int a, int b, int c) {
        if (!isEditable(recipe) || !isBelow(kind, KINDS) || recipes[recipe].stepCount >= STEPS) {
            return NONE;
        }
        return recipes[recipe].append(new Step(kind, a, b, c));
    }

    public boolean link(int recipe, int step, int next, int other) {
        if (!isEditable(recipe) || !isBelow(step, recipes[recipe].stepCount)) {
            return false;
        }
        Step linked = recipes[recipe].steps[step];
        linked.next = next;
        linked.other = other;
        return true;
    }

    public int release(int recipe) throws IllegalArgumentException, IllegalStateException {
        if (!isBelow(recipe, RECIPES)) {
            throw new IllegalArgumentException("no such recipe");
        }
        if (recipes[recipe].released) {
            throw new IllegalStateException("the recipe is released");
        }
        int fault = releaseCheck.findFault(recipes[recipe], units);
        recipes[recipe].released = fault == 0;
        return fault;
    }

    public int batch(int recipe, int size) throws IllegalArgumentException, IllegalStateException {
        if (!isBelow(recipe, RECIPES) || !isBelow(size, MAX_SIZE + 1)) {
            throw new IllegalArgumentException("no such recipe or size");
        }
        if (!recipes[recipe].released || batchCount >= BATCHES) {
            throw new IllegalStateException("not released, or no batch left");
        }
        int number = batchCount;
        batches[number] = new Batch(number, recipe, recipes[recipe], size);
        batchCount++;
        return number;
    }

    public int start(int batch) throws IllegalArgumentException, IllegalStateException {
        Batch chosen = findBatch(batch);
        if (chosen.state != MADE) {
            throw new IllegalStateException("the batch is not MADE");
        }
        floor.enqueue(chosen);
        floor.serveWaiting();
        return chosen.state;
    }

    public int tick() {
        for (int i = 0; i < batchCount; i++) {
            Batch active = batches[i];
            if (active.state == RUNNING || active.state == STOPPING) {
                floor.advance(active);
                if (active.isOver()) {
                    floor.serveWaiting();
                }
            }
        }
        return countBusy();
    }

    public void hold(int batch) throws IllegalArgumentException, IllegalStateException {
        Batch chosen = findBatch(batch);
        if (chosen.state != RUNNING) {
            throw new IllegalStateException("the batch is not RUNNING");
        }
        chosen.state = HELD;
    }

    public int restart(int batch) throws IllegalArgumentException, IllegalStateException {
        Batch chosen = findBatch(batch);
        if (chosen.state != HELD) {
            throw new IllegalStateException("the batch is not HELD");
        }
        chosen.state = RUNNING;
        return chosen.state;
    }

    public int stop(int batch) throws IllegalArgumentException, IllegalStateException {
        Batch chosen = findBatch(batch);
        if (chosen.state != RUNNING && chosen.state != HELD) {
            throw new IllegalStateException("the batch is neither RUNNING nor HELD");
        }
        chosen.state = STOPPING;
        if (chosen.countBegun() == 0) {
            floor.finish(chosen, STOPPED);
            floor.serveWaiting();
        }
        return chosen.state;
    }

    public void abort(int batch) throws IllegalArgumentException, IllegalStateException {
        Batch chosen = findBatch(batch);
        if (chosen.state == MADE || chosen.isOver()) {
            throw new IllegalStateException("the batch is MADE, or over");
        }
        floor.finish(chosen, ABORTED);
        floor.serveWaiting();
    }

    public boolean measure(int batch, int name, int value) {
        if (!isBelow(batch, batchCount) || !isBelow(name, NAMES) || batches[batch].isOver()) {
            return false;
        }
        batches[batch].noteMeasured(name, value);
        return true;
    }

    public int batchIs(int batch, int what) {
        if (!isBelow(batch, batchCount)) {
            return NONE;
        }
        Batch asked = batches[batch];
        switch (what) {
            case 0:
                return asked.state;
            case 1:
                return asked.recipeNumber;
            case 2:
                return asked.size;
            case 3:
                return asked.tokenCount;
            case 4:
                return asked.countBegun();
            default:
                return NONE;
        }
    }

    public int token(int batch, int i) {
        if (!isBelow(batch, batchCount) || !isBelow(i, batches[batch].tokenCount)) {
            return NONE;
        }
        Token asked = batches[batch].tokens[i];
        return asked.begun ? asked.at + BEGUN_MARK : asked.at;
    }

    public int unitOf(int batch, int role) {
        if (!isBelow(batch, batchCount) || !isBelow(role, ROLES)) {
            return NONE;
        }
        return batches[batch].owned[role];
    }

    public int unitIs(int unit, int what) {
        if (!isBelow(unit, UNITS)) {
            return NONE;
        }
        Unit asked = units[unit];
        switch (what) {
            case 0:
                return asked.owner;
            case 1:
                return asked.group;
            case 2:
                return asked.lotCount;
            case 3:
                return asked.total();
            default:
                return NONE;
        }
    }

    public int content(int unit, int i, int what) {
        if (!isBelow(unit, UNITS) || !isBelow(i, units[unit].lotCount)) {
            return NONE;
        }
        switch (what) {
            case 0:
                return units[unit].lotNumbers[i];
            case 1:
                return units[unit].amounts[i];
            default:
                return NONE;
        }
    }

    public int lot(int lot, int what) {
        if (!isBelow(lot, book.count)) {
            return NONE;
        }
        Lot asked = book.all[lot];
        switch (what) {
            case 0:
                return asked.batchNumber;
            case 1:
                return asked.stepNumber;
            case 2:
                return floor.amountOf(lot);
            case 3:
                return asked.parts.length;
            case 4:
                return asked.uses;
            default:
                return NONE;
        }
    }

    public int from(int lot, int i, int what) {
        if (!isBelow(lot, book.count) || !isBelow(i, book.all[lot].parts.length)) {
            return NONE;
        }
        switch (what) {
            case 0:
                return book.all[lot].parts[i];
            case 1:
                return book.all[lot].partAmounts[i];
            default:
                return NONE;
        }
    }

    public int trace(int lot, boolean outcomes, int i) {
        if (!isBelow(lot, book.count) || !isBelow(i, book.count)) {
            return NONE;
        }
        if (outcomes) {
            book.markOutcomes(lot);
        } else {
            book.markOrigins(lot);
        }
        return book.findMarked(i);
    }

    public int lots() {
        return book.count;
    }

    private static boolean isBelow(int number, int limit) {
        return number >= 0 && number < limit;
    }

    private boolean isEditable(int recipe) {
        return isBelow(recipe, RECIPES) && !recipes[recipe].released;
    }

    private Batch findBatch(int number) throws IllegalArgumentException {
        if (!isBelow(number, batchCount)) {
            throw new IllegalArgumentException("no such batch");
        }
        return batches[number];
    }

    private int countBusy() {
        int busy = 0;
        for (int i = 0; i < batchCount; i++) {
            int state = batches[i].state;
            if (state == RUNNING || state == HELD || state == STOPPING) {
                busy++;
            }
        }
        return busy;
    }

    /** A unit with its content: row i of lotNumbers and amounts, in the order in which the lots came. */
    private static final class Unit {
        int group;
        int owner = NONE;
        int lotCount;
        final int[] lotNumbers = new int[LOTS];
        final int[] amounts = new int[LOTS];

        int total() {
            int sum = 0;
            for (int i = 0; i < lotCount; i++) {
                sum += amounts[i];
            }
            return sum;
        }

        int amountOf(int lot) {
            int place = placeOf(lot);
            return place == NONE ? 0 : amounts[place];
        }

        void add(int lot, int amount) {
            if (amount <= 0) {
                return;
            }
            int place = placeOf(lot);
            if (place != NONE) {
                amounts[place] += amount;
            } else if (lotCount < LOTS) {
                lotNumbers[lotCount] = lot;
                amounts[lotCount] = amount;
                lotCount++;
            }
        }

        void dropEmptied() {
            int kept = 0;
            for (int i = 0; i < lotCount; i++) {
                if (amounts[i] > 0) {
                    lotNumbers[kept] = lotNumbers[i];
                    amounts[kept] = amounts[i];
                    kept++;
                }
            }
            lotCount = kept;
        }

        private int placeOf(int lot) {
            for (int i = 0; i < lotCount; i++) {
                if (lotNumbers[i] == lot) {
                    return i;
                }
            }
            return NONE;
        }
    }

    /** Moves material from unit to unit; its rows are kept to be used again. */
    private static final class Mover {
        private final int[] shares = new int[LOTS];
        private final int[] rests = new int[LOTS];

        /** The amount must not be above what the source has. */
        void transfer(Unit source, Unit target, int amount) {
            int total = source.total();
            if (amount <= 0 || amount > total) {
                return;
            }
            int lacking = amount - splitByAmounts(source, amount, total);
            for (int i = 0; i < lacking; i++) {
                giveOneMore(source.lotCount);
            }
            for (int i = 0; i < source.lotCount; i++) {
                source.amounts[i] -= shares[i];
                target.add(source.lotNumbers[i], shares[i]);
            }
            source.dropEmptied();
        }

        private int splitByAmounts(Unit source, int amount, int total) {
            int given = 0;
            for (int i = 0; i < source.lotCount && total > 0; i++) {
                int product = amount * source.amounts[i];
                shares[i] = product / total;
                rests[i] = product % total;
                given += shares[i];
            }
            return given;
        }

        private void giveOneMore(int lotCount) {
            int best = 0;
            for (int i = 1; i < lotCount; i++) {
                if (rests[i] > rests[best]) {
                    best = i;
                }
            }
            shares[best]++;
            rests[best] = NONE;
        }
    }

    /** A step of a recipe. */
    private static final class Step {
        final int kind;
        final int a;
        final int b;
        final int c;
        int next = NONE;
        int other = NONE;

        Step(int kind, int a, int b, int c) {
            this.kind = kind;
            this.a = a;
            this.b = b;
            this.c = c;
        }

        boolean usesRole(int role) {
            return kind <= SAMPLE && (a == role || kind == MOVE && b == role);
        }

        /** The step's NEXT and OTHER as far as they mean something, else NONE. */
        int wayOut(boolean byOther) {
            if (byOther) {
                return kind == FORK || kind == CHOICE || kind == LOOP ? other : NONE;
            }
            return kind == END ? NONE : next;
        }
    }

    /** A recipe, edited until it is released. */
    private static final class Recipe {
        boolean released;
        int stepCount;
        final int[] groups = {NO_GROUP, NO_GROUP, NO_GROUP};
        final Step[] steps = new Step[STEPS];

        int append(Step added) {
            int number = stepCount;
            steps[number] = added;
            stepCount++;
            return number;
        }

        boolean hasRole(int role) {
            return isBelow(role, ROLES) && groups[role] != NO_GROUP;
        }

        int countRoles(int group) {
            int roles = 0;
            for (int i = 0; i < ROLES; i++) {
                if (groups[i] == group) {
                    roles++;
                }
            }
            return roles;
        }
    }

    /** Finds out why a recipe can't be released; its rows are kept to be used again. */
    private static final class ReleaseCheck {
        private static final int BRANCH_IDS = 2 * STEPS + 1;
        private static final int ALL_NAMES = (1 << NAMES) - 1;

        private final int[] reached = new int[STEPS];
        // A FORK at step f begins the branches 2f + 1 (NEXT) and 2f + 2 (OTHER).
        private final int[] branchOf = new int[STEPS];
        private final int[] forkOfJoin = new int[STEPS];
        private final int[] joinOfBranch = new int[BRANCH_IDS];
        private final int[] namesBefore = new int[STEPS];
        private final int[] namesAtBranchEnd = new int[BRANCH_IDS];

        int findFault(Recipe recipe, Unit[] units) {
            if (!isSound(recipe)) {
                return 1;
            }
            if (!isAllReached(recipe)) {
                return 2;
            }
            if (!isWellBranched(recipe)) {
                return 3;
            }
            if (!isMeasuredForChoices(recipe)) {
                return 4;
            }
            return hasEnoughUnits(recipe, units) ? 0 : 5;
        }

        private boolean isSound(Recipe recipe) {
            for (int i = 0; i < recipe.stepCount; i++) {
                if (!hasSoundNumbers(recipe, recipe.steps[i]) || !hasSoundLinks(recipe, i)) {
                    return false;
                }
            }
            return recipe.stepCount > 0;
        }

        private boolean hasSoundNumbers(Recipe recipe, Step step) {
            switch (step.kind) {
                case CHARGE:
                    return recipe.hasRole(step.a) && isBelow(step.b, MAX_CHARGE + 1) && isBelow(step.c, MAX_CHARGE + 1);
                case HEAT:
                case REACT:
                    return recipe.hasRole(step.a) && step.b >= 1 && step.b <= MAX_TICKS;
                case MOVE:
                    return recipe.hasRole(step.a) && recipe.hasRole(step.b) && step.a != step.b
                            && step.c >= 1 && step.c <= 100;
                case SAMPLE:
                    return recipe.hasRole(step.a) && isBelow(step.b, NAMES);
                case CHOICE:
                    return isBelow(step.a, NAMES);
                case LOOP:
                    return step.a >= 1 && step.a <= MAX_ROUNDS;
                default:
                    return true;
            }
        }

        private boolean hasSoundLinks(Recipe recipe, int number) {
            Step step = recipe.steps[number];
            if (step.kind == END) {
                return true;
            }
            if (step.next <= number || step.next >= recipe.stepCount) {
                return false;
            }
            switch (step.kind) {
                case FORK:
                case CHOICE:
                    return step.other > number && step.other < recipe.stepCount;
                case LOOP:
                    return isBelow(step.other, number);
                default:
                    return true;
            }
        }

        private boolean isAllReached(Recipe recipe) {
            Arrays.fill(reached, 0);
            reached[0] = 1;
            // A LOOP's OTHER goes back, so what a round finds may lead on in the next; each finds one at least.
            for (int round = 0; round < recipe.stepCount; round++) {
                for (int i = 0; i < recipe.stepCount; i++) {
                    if (reached[i] == 1) {
                        reach(recipe.steps[i].wayOut(false));
                        reach(recipe.steps[i].wayOut(true));
                    }
                }
            }
            int found = 0;
            for (int i = 0; i < recipe.stepCount; i++) {
                found += reached[i];
            }
            return found == recipe.stepCount;
        }

        private void reach(int target) {
            if (isBelow(target, STEPS)) {
                reached[target] = 1;
            }
        }

        private boolean isWellBranched(Recipe recipe) {
            Arrays.fill(branchOf, NONE);
            Arrays.fill(forkOfJoin, NONE);
            Arrays.fill(joinOfBranch, NONE);
            branchOf[0] = 0;
            for (int round = 0; round < recipe.stepCount; round++) {
                for (int i = 0; i < recipe.stepCount; i++) {
                    if (branchOf[i] != NONE && !spreadBranch(recipe, i)) {
                        return false;
                    }
                }
            }
            for (int i = 0; i < recipe.stepCount; i++) {
                if (!endsWell(recipe.steps[i].kind, i)) {
                    return false;
                }
            }
            return true;
        }

        private boolean spreadBranch(Recipe recipe, int number) {
            Step step = recipe.steps[number];
            int branch = branchOf[number];
            boolean forks = step.kind == FORK;
            return enterBranch(recipe, step.wayOut(false), forks ? 2 * number + 1 : branch, forks)
                    && enterBranch(recipe, step.wayOut(true), forks ? 2 * number + 2 : branch, forks);
        }

        private boolean enterBranch(Recipe recipe, int target, int branch, boolean begins) {
            if (!isBelow(target, recipe.stepCount)) {
                return true;
            }
            if (recipe.steps[target].kind == JOIN) {
                // A branch that begins at its JOIN would have no step of its own.
                return !begins && joinBranch(target, branch);
            }
            if (branchOf[target] == NONE) {
                branchOf[target] = branch;
            }
            return branchOf[target] == branch;
        }

        private boolean joinBranch(int join, int branch) {
            if (branch == 0) {
                return false;
            }
            int fork = (branch - 1) / 2;
            if (branchOf[join] == NONE) {
                branchOf[join] = branchOf[fork];
                forkOfJoin[join] = fork;
            }
            if (joinOfBranch[branch] == NONE) {
                joinOfBranch[branch] = join;
            }
            return forkOfJoin[join] == fork && joinOfBranch[branch] == join;
        }

        private boolean endsWell(int kind, int number) {
            switch (kind) {
                case END:
                    return branchOf[number] == 0;
                case FORK:
                    return joinOfBranch[2 * number + 1] != NONE
                            && joinOfBranch[2 * number + 1] == joinOfBranch[2 * number + 2];
                case JOIN:
                    return forkOfJoin[number] != NONE;
                default:
                    return true;
            }
        }

        /** Ways without an OTHER of a LOOP only go to later steps: one round by number is enough. */
        private boolean isMeasuredForChoices(Recipe recipe) {
            Arrays.fill(namesBefore, ALL_NAMES);
            Arrays.fill(namesAtBranchEnd, ALL_NAMES);
            namesBefore[0] = 0;
            for (int i = 0; i < recipe.stepCount; i++) {
                Step step = recipe.steps[i];
                if (step.kind == JOIN) {
                    int fork = forkOfJoin[i];
                    namesBefore[i] = namesAtBranchEnd[2 * fork + 1] | namesAtBranchEnd[2 * fork + 2];
                }
                if (step.kind == CHOICE && (namesBefore[i] >> step.a & 1) == 0) {
                    return false;
                }
                int names = step.kind == SAMPLE ? namesBefore[i] | 1 << step.b : namesBefore[i];
                spreadNames(recipe, i, step.wayOut(false), names);
                if (step.kind != LOOP) {
                    spreadNames(recipe, i, step.wayOut(true), names);
                }
            }
            return true;
        }

        private void spreadNames(Recipe recipe, int number, int target, int names) {
            if (!isBelow(target, recipe.stepCount)) {
                return;
            }
            if (recipe.steps[target].kind == JOIN) {
                namesAtBranchEnd[branchOf[number]] &= names;
            } else {
                namesBefore[target] &= names;
            }
        }

        private boolean hasEnoughUnits(Recipe recipe, Unit[] units) {
            for (int group = 0; group < GROUPS; group++) {
                int there = 0;
                for (int i = 0; i < UNITS; i++) {
                    if (units[i].group == group) {
                        there++;
                    }
                }
                if (there < recipe.countRoles(group)) {
                    return false;
                }
            }
            return true;
        }
    }

    /** A token; left is what its phase has still to do, if that has begun. */
    private static final class Token {
        int at;
        boolean begun;
        int left;
        int lot;
    }

    /** A batch with its tokens, which stand in the order in which they were made. */
    private static final class Batch {
        final int number;
        final int recipeNumber;
        final Recipe recipe;
        final int size;
        int state = MADE;
        int tokenCount;
        final Token[] tokens = new Token[TOKENS];
        final int[] values = new int[NAMES];
        final int[] rounds = new int[STEPS];
        final int[] owned = {NONE, NONE, NONE};

        Batch(int number, int recipeNumber, Recipe recipe, int size) {
            this.number = number;
            this.recipeNumber = recipeNumber;
            this.recipe = recipe;
            this.size = size;
            for (int i = 0; i < TOKENS; i++) {
                tokens[i] = new Token();
            }
        }

        boolean isOver() {
            return state == STOPPED || state == ABORTED || state == COMPLETE;
        }

        int countBegun() {
            int begun = 0;
            for (int i = 0; i < tokenCount; i++) {
                if (tokens[i].begun) {
                    begun++;
                }
            }
            return begun;
        }

        void noteMeasured(int name, int value) {
            values[name] = value;
            for (int i = 0; i < tokenCount; i++) {
                Step step = recipe.steps[tokens[i].at];
                if (tokens[i].begun && step.kind == SAMPLE && step.b == name) {
                    tokens[i].left = 0;
                }
            }
        }

        void addToken(int at) {
            if (tokenCount < TOKENS) {
                tokens[tokenCount].at = at;
                tokens[tokenCount].begun = false;
                tokenCount++;
            }
        }

        /** The token goes behind the others, so that its object can be used again. */
        void removeToken(Token gone) {
            int place = placeOf(gone);
            if (place == NONE) {
                return;
            }
            for (int i = place; i + 1 < tokenCount; i++) {
                tokens[i] = tokens[i + 1];
            }
            tokenCount--;
            tokens[tokenCount] = gone;
        }

        int placeOf(Token sought) {
            for (int i = 0; i < tokenCount; i++) {
                if (tokens[i] == sought) {
                    return i;
                }
            }
            return NONE;
        }

        Token findPartner(Token token) {
            for (int i = 0; i < tokenCount; i++) {
                if (tokens[i] != token && tokens[i].at == token.at) {
                    return tokens[i];
                }
            }
            return null;
        }

        boolean hasRolesFree(Step phase) {
            for (int i = 0; i < tokenCount; i++) {
                if (tokens[i].begun && sharesRole(phase, recipe.steps[tokens[i].at])) {
                    return false;
                }
            }
            return true;
        }

        private static boolean sharesRole(Step one, Step two) {
            for (int role = 0; role < ROLES; role++) {
                if (one.usesRole(role) && two.usesRole(role)) {
                    return true;
                }
            }
            return false;
        }

        int countRound(int at, Step loop) {
            if (rounds[at] < loop.a) {
                rounds[at]++;
                return loop.other;
            }
            rounds[at] = 0;
            return loop.next;
        }
    }

    /** A lot; its parts are the lots that went into it. */
    private static final class Lot {
        final int batchNumber;
        final int stepNumber;
        int[] parts = NO_PARTS;
        int[] partAmounts = NO_PARTS;
        int uses;

        Lot(int batchNumber, int stepNumber) {
            this.batchNumber = batchNumber;
            this.stepNumber = stepNumber;
        }
    }

    /** All lots by number. A lot's parts always have lower numbers than itself. */
    private static final class LotBook {
        int count;
        final Lot[] all = new Lot[LOTS];
        private final int[] marks = new int[LOTS];

        boolean isFull() {
            return count >= LOTS;
        }

        /** There must be room for one more. */
        int open(int batchNumber, int stepNumber) {
            int number = count;
            all[number] = new Lot(batchNumber, stepNumber);
            count++;
            return number;
        }

        void putInto(int lot, Unit source) {
            all[lot].parts = Arrays.copyOf(source.lotNumbers, source.lotCount);
            all[lot].partAmounts = Arrays.copyOf(source.amounts, source.lotCount);
            for (int i = 0; i < source.lotCount; i++) {
                all[source.lotNumbers[i]].uses++;
            }
        }

        void markOrigins(int lot) {
            Arrays.fill(marks, 0);
            marks[lot] = 1;
            for (int i = lot; i >= 0; i--) {
                if (marks[i] == 1) {
                    markParts(all[i].parts);
                }
            }
            marks[lot] = 0;
        }

        void markOutcomes(int lot) {
            Arrays.fill(marks, 0);
            marks[lot] = 1;
            for (int i = lot + 1; i < count; i++) {
                if (hasMarked(all[i].parts)) {
                    marks[i] = 1;
                }
            }
            marks[lot] = 0;
        }

        int findMarked(int i) {
            int before = 0;
            for (int lot = 0; lot < count; lot++) {
                if (marks[lot] == 1) {
                    if (before == i) {
                        return lot;
                    }
                    before++;
                }
            }
            return NONE;
        }

        private void markParts(int[] parts) {
            for (int i = 0; i < parts.length; i++) {
                marks[parts[i]] = 1;
            }
        }

        private boolean hasMarked(int[] parts) {
            for (int i = 0; i < parts.length; i++) {
                if (marks[parts[i]] == 1) {
                    return true;
                }
            }
            return false;
        }
    }

    /** Where batches run: who owns which unit, how tokens move, and what phases do. */
    private static final class Floor {
        final Unit[] units = new Unit[UNITS];
        final LotBook book = new LotBook();
        private final Mover mover = new Mover();
        private final Batch[] line = new Batch[BATCHES];
        private int lineCount;
        private final int[] blocked = new int[GROUPS];

        Floor() {
            for (int i = 0; i < UNITS; i++) {
                units[i] = new Unit();
            }
        }

        int amountOf(int lot) {
            int sum = 0;
            for (int i = 0; i < UNITS; i++) {
                sum += units[i].amountOf(lot);
            }
            return sum;
        }

        void enqueue(Batch started) {
            if (lineCount < BATCHES) {
                started.state = WAITING;
                line[lineCount] = started;
                lineCount++;
            }
        }

        /**
         * One round is enough, even if a batch is over at once: its units are free again before
         * the next one is looked at, and those before it lack what they lacked.
         */
        void serveWaiting() {
            Arrays.fill(blocked, 0);
            for (int i = 0; i < lineCount; i++) {
                Batch waiting = line[i];
                if (waiting.state != WAITING) {
                    continue;
                }
                if (mayClaim(waiting.recipe)) {
                    takeUnits(waiting);
                    waiting.state = RUNNING;
                    waiting.addToken(0);
                    moveTokens(waiting);
                } else {
                    block(waiting.recipe);
                }
            }
        }

        void finish(Batch batch, int state) {
            batch.state = state;
            batch.tokenCount = 0;
            for (int role = 0; role < ROLES; role++) {
                if (batch.owned[role] != NONE) {
                    units[batch.owned[role]].owner = NONE;
                    batch.owned[role] = NONE;
                }
            }
        }

        /** A tick of one batch; if it is over then, it has no tokens left to go through. */
        void advance(Batch batch) {
            for (int i = 0; i < batch.tokenCount; i++) {
                if (batch.tokens[i].begun) {
                    goOn(batch, batch.tokens[i]);
                }
            }
            if (batch.state == STOPPING && batch.countBegun() == 0) {
                finish(batch, STOPPED);
            } else if (batch.state == RUNNING) {
                moveTokens(batch);
            }
        }

        private boolean mayClaim(Recipe recipe) {
            for (int group = 0; group < GROUPS; group++) {
                int needed = recipe.countRoles(group);
                if (needed > 0 && (blocked[group] == 1 || countFree(group) < needed)) {
                    return false;
                }
            }
            return true;
        }

        private void block(Recipe recipe) {
            for (int group = 0; group < GROUPS; group++) {
                if (recipe.countRoles(group) > 0) {
                    blocked[group] = 1;
                }
            }
        }

        private int countFree(int group) {
            int free = 0;
            for (int i = 0; i < UNITS; i++) {
                if (units[i].group == group && units[i].owner == NONE) {
                    free++;
                }
            }
            return free;
        }

        private void takeUnits(Batch batch) {
            for (int role = 0; role < ROLES; role++) {
                if (batch.recipe.hasRole(role)) {
                    takeLeastUnit(batch, role);
                }
            }
        }

        private void takeLeastUnit(Batch batch, int role) {
            for (int i = 0; i < UNITS; i++) {
                if (units[i].group == batch.recipe.groups[role] && units[i].owner == NONE) {
                    units[i].owner = batch.number;
                    batch.owned[role] = i;
                    return;
                }
            }
        }

        /**
         * Each token has its turn once: at its turn it goes as far as it can, and what it waits for
         * then comes only with a tick, or with the other token of a JOIN, which goes on itself.
         */
        private void moveTokens(Batch batch) {
            int place = 0;
            for (int turns = 0; place < batch.tokenCount && turns < MOVES_BOUND; turns++) {
                Token token = batch.tokens[place];
                takeTurn(batch, token);
                // A JOIN may have taken away a token before this one.
                place = batch.placeOf(token) + 1;
            }
        }

        private void takeTurn(Batch batch, Token token) {
            for (int moves = 0; moves < MOVES_BOUND; moves++) {
                Step step = batch.recipe.steps[token.at];
                switch (step.kind) {
                    case FORK:
                        batch.addToken(step.other);
                        token.at = step.next;
                        break;
                    case JOIN:
                        Token partner = batch.findPartner(token);
                        if (partner == null) {
                            return;
                        }
                        batch.removeToken(partner);
                        token.at = step.next;
                        break;
                    case CHOICE:
                        token.at = batch.values[step.a] < step.b ? step.next : step.other;
                        break;
                    case LOOP:
                        token.at = batch.countRound(token.at, step);
                        break;
                    case END:
                        finish(batch, COMPLETE);
                        return;
                    default:
                        if (!token.begun && batch.hasRolesFree(step)) {
                            begin(batch, token, step);
                        }
                        return;
                }
            }
        }

        private void begin(Batch batch, Token token, Step phase) {
            switch (phase.kind) {
                case CHARGE:
                    if (book.isFull()) {
                        finish(batch, ABORTED);
                        return;
                    }
                    token.lot = book.open(batch.number, token.at);
                    token.left = phase.b + phase.c * batch.size / 100;
                    break;
                case MOVE:
                    token.left = phase.c * unitFor(batch, phase.a).total() / 100;
                    break;
                case SAMPLE:
                    token.left = 1;
                    break;
                default:
                    token.left = phase.b;
                    break;
            }
            token.begun = true;
        }

        private void goOn(Batch batch, Token token) {
            Step phase = batch.recipe.steps[token.at];
            switch (phase.kind) {
                case CHARGE:
                    chargeOn(batch, token, phase);
                    break;
                case MOVE:
                    moveOn(batch, token, phase);
                    break;
                case HEAT:
                case REACT:
                    token.left--;
                    break;
                default:
                    break;
            }
            if (token.left > 0) {
                return;
            }
            if (phase.kind == REACT) {
                // If this ABORTED the batch, the token is no longer one of its tokens.
                react(batch, token.at, unitFor(batch, phase.a));
            }
            token.begun = false;
            token.at = phase.next;
        }

        private void chargeOn(Batch batch, Token token, Step phase) {
            int portion = Math.min(PORTION, token.left);
            unitFor(batch, phase.a).add(token.lot, portion);
            token.left -= portion;
        }

        private void moveOn(Batch batch, Token token, Step phase) {
            Unit source = unitFor(batch, phase.a);
            int portion = Math.min(PORTION, token.left);
            int there = source.total();
            if (there < portion) {
                portion = there;
                token.left = there;
            }
            mover.transfer(source, unitFor(batch, phase.b), portion);
            token.left -= portion;
        }

        private void react(Batch batch, int at, Unit unit) {
            if (unit.lotCount == 0) {
                return;
            }
            if (book.isFull()) {
                finish(batch, ABORTED);
                return;
            }
            int lot = book.open(batch.number, at);
            book.putInto(lot, unit);
            int total = unit.total();
            unit.lotCount = 0;
            unit.add(lot, total);
        }

        /** A running batch owns a unit for each role that its phases name. */
        private Unit unitFor(Batch batch, int role) {
            return units[batch.owned[role]];
        }
    }
}
