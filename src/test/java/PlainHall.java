import java.util.ArrayList;
import java.util.Arrays;
import java.util.HashMap;
import java.util.HashSet;
import java.util.LinkedHashMap;
import java.util.List;
import java.util.Map;
import java.util.Set;
import java.util.TreeSet;

/**
 * The document told again, as literally as can be and with the whole Java library: claims are made anew
 * at once whenever units come back, tokens are gone through again and again, charts are walked by their
 * ways. RandomRunTest holds BatchHall against it.
 */
final class PlainHall {
    static final int NONE = -1;

    static final class U {
        int group = 0;
        int owner = NONE;
        final LinkedHashMap<Integer, Integer> content = new LinkedHashMap<>();

        int total() {
            return content.values().stream().mapToInt(Integer::intValue).sum();
        }
    }

    record S(int kind, int a, int b, int c, int[] links) {
        List<Integer> roles() {
            if (kind > 4) {
                return List.of();
            }
            return kind == 2 ? List.of(a, b) : List.of(a);
        }

        /** All ways out, or those that don't go back. */
        List<Integer> ways(boolean back) {
            List<Integer> ways = new ArrayList<>();
            if (kind != 9) {
                ways.add(links[0]);
            }
            if (kind == 5 || kind == 7 || kind == 8 && back) {
                ways.add(links[1]);
            }
            return ways;
        }
    }

    static final class R {
        boolean released = false;
        final int[] groups = {3, 3, 3};
        final List<S> steps = new ArrayList<>();
    }

    static final class T {
        int at;
        boolean begun = false;
        int left;
        int lot;

        T(int at) {
            this.at = at;
        }
    }

    static final class B {
        int recipe;
        int size;
        int state = 0;
        final int[] values = new int[4];
        final Map<Integer, Integer> comings = new HashMap<>();
        final List<T> tokens = new ArrayList<>();
        final Map<Integer, Integer> own = new HashMap<>();
    }

    static final class L {
        int batch;
        int step;
        final LinkedHashMap<Integer, Integer> from = new LinkedHashMap<>();
    }

    final List<U> units = new ArrayList<>();
    final List<R> recipes = new ArrayList<>();
    final List<B> batches = new ArrayList<>();
    final List<B> started = new ArrayList<>();
    final List<L> lots = new ArrayList<>();

    PlainHall() {
        for (int i = 0; i < 6; i++) {
            units.add(new U());
        }
        for (int i = 0; i < 4; i++) {
            recipes.add(new R());
        }
    }

    boolean unit(int unit, int group) {
        if (unit < 0 || unit > 5 || group < 0 || group > 2 || units.get(unit).owner != NONE) {
            return false;
        }
        units.get(unit).group = group;
        return true;
    }

    boolean role(int recipe, int role, int group) {
        if (!within(recipe, 0, 3) || !within(role, 0, 2) || !within(group, 0, 3) || recipes.get(recipe).released) {
            return false;
        }
        recipes.get(recipe).groups[role] = group;
        return true;
    }

    int step(int recipe, int kind, int a, int b, int c) {
        if (recipe < 0 || recipe > 3 || kind < 0 || kind > 9) {
            return NONE;
        }
        R r = recipes.get(recipe);
        if (r.released || r.steps.size() == 12) {
            return NONE;
        }
        r.steps.add(new S(kind, a, b, c, new int[] {NONE, NONE}));
        return r.steps.size() - 1;
    }

    boolean link(int recipe, int step, int next, int other) {
        if (recipe < 0 || recipe > 3) {
            return false;
        }
        R r = recipes.get(recipe);
        if (r.released || step < 0 || step >= r.steps.size()) {
            return false;
        }
        r.steps.get(step).links()[0] = next;
        r.steps.get(step).links()[1] = other;
        return true;
    }

    int release(int recipe) {
        if (recipe < 0 || recipe > 3) {
            throw new IllegalArgumentException();
        }
        R r = recipes.get(recipe);
        if (r.released) {
            throw new IllegalStateException();
        }
        int why = whyNot(r);
        r.released = why == 0;
        return why;
    }

    private int whyNot(R r) {
        if (r.steps.isEmpty()) {
            return 1;
        }
        for (int i = 0; i < r.steps.size(); i++) {
            if (!sound(r, i)) {
                return 1;
            }
        }
        Set<Integer> seen = new HashSet<>();
        walk(r, 0, true, seen);
        if (seen.size() < r.steps.size()) {
            return 2;
        }
        Map<Integer, String> stacks = new HashMap<>();
        Map<Integer, Set<String>> arrivals = new HashMap<>();
        if (!branches(r, stacks, arrivals)) {
            return 3;
        }
        for (int i = 0; i < r.steps.size(); i++) {
            S s = r.steps.get(i);
            if (s.kind() == 7 && !measuredAt(r, i, s.a(), stacks)) {
                return 4;
            }
        }
        for (int g = 0; g < 3; g++) {
            int group = g;
            long need = Arrays.stream(r.groups).filter(x -> x == group).count();
            if (units.stream().filter(u -> u.group == group).count() < need) {
                return 5;
            }
        }
        return 0;
    }

    private static boolean within(int x, int low, int high) {
        return x >= low && x <= high;
    }

    private boolean sound(R r, int i) {
        S s = r.steps.get(i);
        for (int role : s.roles()) {
            if (!within(role, 0, 2) || r.groups[role] == 3) {
                return false;
            }
        }
        boolean numbers = switch (s.kind()) {
            case 0 -> within(s.b(), 0, 500) && within(s.c(), 0, 500);
            case 1, 3 -> within(s.b(), 1, 20);
            case 2 -> s.a() != s.b() && within(s.c(), 1, 100);
            case 4 -> within(s.b(), 0, 3);
            case 7 -> within(s.a(), 0, 3);
            case 8 -> within(s.a(), 1, 5);
            default -> true;
        };
        int last = r.steps.size() - 1;
        boolean next = s.kind() == 9 || within(s.links()[0], i + 1, last);
        boolean other = switch (s.kind()) {
            case 5, 7 -> within(s.links()[1], i + 1, last);
            case 8 -> within(s.links()[1], 0, i - 1);
            default -> true;
        };
        return numbers && next && other;
    }

    private void walk(R r, int at, boolean back, Set<Integer> seen) {
        if (seen.add(at)) {
            for (int way : r.steps.get(at).ways(back)) {
                walk(r, way, back, seen);
            }
        }
    }

    /** The stack of open branches at each step, as a text of "fork side;" parts. */
    private boolean branches(R r, Map<Integer, String> stacks, Map<Integer, Set<String>> arrivals) {
        List<Object[]> open = new ArrayList<>();
        if (r.steps.get(0).kind() == 6) {
            return false;
        }
        open.add(new Object[] {0, ""});
        Map<String, Set<Integer>> endings = new HashMap<>();
        while (!open.isEmpty()) {
            Object[] now = open.remove(open.size() - 1);
            int at = (Integer) now[0];
            String stack = (String) now[1];
            if (stacks.containsKey(at)) {
                if (!stacks.get(at).equals(stack)) {
                    return false;
                }
                continue;
            }
            stacks.put(at, stack);
            S s = r.steps.get(at);
            int side = 0;
            for (int way : s.ways(true)) {
                String then = s.kind() == 5 ? stack + at + " " + side + ";" : stack;
                side++;
                if (r.steps.get(way).kind() == 6) {
                    if (s.kind() == 5 || then.isEmpty()) {
                        return false;
                    }
                    int cut = then.lastIndexOf(';', then.length() - 2) + 1;
                    arrivals.computeIfAbsent(way, k -> new HashSet<>()).add(then.substring(cut));
                    endings.computeIfAbsent(then.substring(cut), k -> new HashSet<>()).add(way);
                    then = then.substring(0, cut);
                }
                open.add(new Object[] {way, then});
            }
        }
        for (int i = 0; i < r.steps.size(); i++) {
            int kind = r.steps.get(i).kind();
            if (kind == 9 && !stacks.get(i).isEmpty()) {
                return false;
            }
            if (kind == 5) {
                Set<Integer> one = endings.get(i + " 0;");
                Set<Integer> two = endings.get(i + " 1;");
                if (one == null || one.size() != 1 || !one.equals(two)) {
                    return false;
                }
            }
            if (kind == 6) {
                Set<String> came = arrivals.get(i);
                if (came == null || came.size() != 2) {
                    return false;
                }
                Set<String> forks = new HashSet<>();
                came.forEach(c -> forks.add(c.substring(0, c.indexOf(' '))));
                if (forks.size() != 1) {
                    return false;
                }
            }
        }
        return true;
    }

    private boolean measuredAt(R r, int at, int name, Map<Integer, String> stacks) {
        Set<Integer> seen = new HashSet<>();
        walk(r, 0, false, seen);
        if (!seen.contains(at)) {
            return true;
        }
        if (at == 0) {
            return false;
        }
        Map<String, Boolean> byBranch = new HashMap<>();
        boolean all = true;
        for (int p : seen) {
            S s = r.steps.get(p);
            if (s.ways(false).contains(at)) {
                boolean done = s.kind() == 4 && s.b() == name || measuredAt(r, p, name, stacks);
                byBranch.merge(stacks.get(p), done, Boolean::logicalAnd);
                all &= done;
            }
        }
        return r.steps.get(at).kind() == 6 ? byBranch.containsValue(true) : all;
    }

    int batch(int recipe, int size) {
        if (recipe < 0 || recipe > 3 || size < 0 || size > 1000) {
            throw new IllegalArgumentException();
        }
        if (!recipes.get(recipe).released || batches.size() == 16) {
            throw new IllegalStateException();
        }
        B b = new B();
        b.recipe = recipe;
        b.size = size;
        batches.add(b);
        return batches.size() - 1;
    }

    private B demand(int batch, Integer... states) {
        if (batch < 0 || batch >= batches.size()) {
            throw new IllegalArgumentException();
        }
        if (!List.of(states).contains(batches.get(batch).state)) {
            throw new IllegalStateException();
        }
        return batches.get(batch);
    }

    int start(int batch) {
        B b = demand(batch, 0);
        b.state = 1;
        started.add(b);
        claims();
        return b.state;
    }

    private List<Integer> needs(B b) {
        List<Integer> needs = new ArrayList<>();
        for (int g : recipes.get(b.recipe).groups) {
            if (g != 3) {
                needs.add(g);
            }
        }
        return needs;
    }

    private void claims() {
        for (int i = 0; i < started.size(); i++) {
            B b = started.get(i);
            if (b.state == 1 && mayHave(b, i)) {
                for (int role = 0; role < 3; role++) {
                    int group = recipes.get(b.recipe).groups[role];
                    if (group != 3) {
                        int u = firstFree(group);
                        units.get(u).owner = batches.indexOf(b);
                        b.own.put(role, u);
                    }
                }
                b.state = 2;
                b.tokens.add(new T(0));
                moveAll(b);
            }
        }
    }

    private int firstFree(int group) {
        for (int u = 0; u < 6; u++) {
            if (units.get(u).group == group && units.get(u).owner == NONE) {
                return u;
            }
        }
        return NONE;
    }

    private boolean mayHave(B b, int place) {
        List<Integer> needs = needs(b);
        for (int j = 0; j < place; j++) {
            if (started.get(j).state == 1) {
                for (int g : needs(started.get(j))) {
                    if (needs.contains(g)) {
                        return false;
                    }
                }
            }
        }
        for (int g : needs) {
            long free = units.stream().filter(u -> u.group == g && u.owner == NONE).count();
            if (free < needs.stream().filter(x -> x == g).count()) {
                return false;
            }
        }
        return true;
    }

    private void over(B b, int state) {
        b.state = state;
        b.tokens.clear();
        for (int u : b.own.values()) {
            units.get(u).owner = NONE;
        }
        b.own.clear();
        claims();
    }

    private void moveAll(B b) {
        boolean moved = true;
        while (moved && b.state == 2) {
            moved = false;
            for (int i = 0; i < b.tokens.size() && b.state == 2; i++) {
                T t = b.tokens.get(i);
                int was = t.at;
                boolean wasBegun = t.begun;
                int passed = turn(b, t);
                moved |= passed > 0 || t.at != was || t.begun != wasBegun;
                i = b.tokens.indexOf(t);
            }
        }
    }

    private int turn(B b, T t) {
        int passed = 0;
        while (true) {
            S s = recipes.get(b.recipe).steps.get(t.at);
            if (s.kind() <= 4) {
                if (!t.begun && rolesFree(b, s)) {
                    beginPhase(b, t, s);
                }
                return passed;
            }
            if (s.kind() == 9) {
                over(b, 7);
                return passed;
            }
            if (s.kind() == 5) {
                b.tokens.add(new T(s.links()[1]));
                t.at = s.links()[0];
            } else if (s.kind() == 6) {
                T mate = b.tokens.stream().filter(x -> x != t && x.at == t.at).findFirst().orElse(null);
                if (mate == null) {
                    return passed;
                }
                b.tokens.remove(mate);
                t.at = s.links()[0];
            } else if (s.kind() == 7) {
                t.at = s.links()[b.values[s.a()] < s.b() ? 0 : 1];
            } else {
                int coming = b.comings.merge(t.at, 1, Integer::sum);
                t.at = s.links()[(coming - 1) % (s.a() + 1) < s.a() ? 1 : 0];
            }
            passed++;
        }
    }

    private boolean rolesFree(B b, S s) {
        for (T t : b.tokens) {
            if (t.begun) {
                for (int role : recipes.get(b.recipe).steps.get(t.at).roles()) {
                    if (s.roles().contains(role)) {
                        return false;
                    }
                }
            }
        }
        return true;
    }

    private L newLot(B b, int step) {
        L lot = new L();
        lot.batch = batches.indexOf(b);
        lot.step = step;
        lots.add(lot);
        return lot;
    }

    private void beginPhase(B b, T t, S s) {
        if (s.kind() == 0 && lots.size() == 100) {
            over(b, 6);
            return;
        }
        t.begun = true;
        switch (s.kind()) {
            case 0 -> {
                newLot(b, t.at);
                t.lot = lots.size() - 1;
                t.left = s.b() + s.c() * b.size / 100;
            }
            case 2 -> t.left = units.get(b.own.get(s.a())).total() * s.c() / 100;
            case 4 -> t.left = 1;
            default -> t.left = s.b();
        }
    }

    int tick() {
        for (B b : batches) {
            if (b.state != 2 && b.state != 4) {
                continue;
            }
            for (T t : new ArrayList<>(b.tokens)) {
                if (t.begun && (b.state == 2 || b.state == 4)) {
                    phaseTick(b, t);
                }
            }
            if (b.state == 4 && b.tokens.stream().noneMatch(t -> t.begun)) {
                over(b, 5);
            } else if (b.state == 2) {
                moveAll(b);
            }
        }
        return (int) batches.stream().filter(b -> b.state >= 2 && b.state <= 4).count();
    }

    private void phaseTick(B b, T t) {
        S s = recipes.get(b.recipe).steps.get(t.at);
        U u = units.get(b.own.get(s.a()));
        int part = Math.min(10, t.left);
        switch (s.kind()) {
            case 0 -> {
                if (part > 0) {
                    u.content.merge(t.lot, part, Integer::sum);
                }
                t.left -= part;
            }
            case 2 -> {
                move(u, units.get(b.own.get(s.b())), part);
                t.left -= part;
            }
            case 1, 3 -> t.left--;
            default -> {
            }
        }
        if (t.left > 0) {
            return;
        }
        if (s.kind() == 3 && !u.content.isEmpty()) {
            if (lots.size() == 100) {
                over(b, 6);
                return;
            }
            L lot = newLot(b, t.at);
            lot.from.putAll(u.content);
            int all = u.total();
            u.content.clear();
            u.content.put(lots.size() - 1, all);
        }
        t.begun = false;
        t.at = s.links()[0];
    }

    private void move(U from, U to, int x) {
        int y = from.total();
        if (x == 0) {
            return;
        }
        List<Integer> order = new ArrayList<>(from.content.keySet());
        Map<Integer, Integer> share = new HashMap<>();
        int sum = 0;
        for (int lot : order) {
            share.put(lot, x * from.content.get(lot) / y);
            sum += share.get(lot);
        }
        List<Integer> byRest = new ArrayList<>(order);
        byRest.sort((p, q) -> x * from.content.get(q) % y - x * from.content.get(p) % y);
        for (int i = 0; i < x - sum; i++) {
            share.merge(byRest.get(i), 1, Integer::sum);
        }
        for (int lot : order) {
            if (share.get(lot) > 0) {
                to.content.merge(lot, share.get(lot), Integer::sum);
                from.content.merge(lot, -share.get(lot), Integer::sum);
                if (from.content.get(lot) == 0) {
                    from.content.remove(lot);
                }
            }
        }
    }

    void hold(int batch) {
        demand(batch, 2).state = 3;
    }

    int restart(int batch) {
        demand(batch, 3).state = 2;
        return 2;
    }

    int stop(int batch) {
        B b = demand(batch, 2, 3);
        b.state = 4;
        if (b.tokens.stream().noneMatch(t -> t.begun)) {
            over(b, 5);
        }
        return b.state;
    }

    void abort(int batch) {
        over(demand(batch, 1, 2, 3, 4), 6);
    }

    boolean measure(int batch, int name, int value) {
        if (batch < 0 || batch >= batches.size() || name < 0 || name > 3 || batches.get(batch).state > 4) {
            return false;
        }
        B b = batches.get(batch);
        b.values[name] = value;
        for (T t : b.tokens) {
            S s = recipes.get(b.recipe).steps.get(t.at);
            if (t.begun && s.kind() == 4 && s.b() == name) {
                t.left = 0;
            }
        }
        return true;
    }

    /** A name that a SAMPLE of the batch waits for, or NONE: for who drives a run. */
    int awaited(int batch) {
        for (T t : batches.get(batch).tokens) {
            S s = recipes.get(batches.get(batch).recipe).steps.get(t.at);
            if (t.begun && s.kind() == 4 && t.left > 0) {
                return s.b();
            }
        }
        return NONE;
    }

    int batchIs(int batch, int what) {
        if (batch < 0 || batch >= batches.size()) {
            return NONE;
        }
        B b = batches.get(batch);
        return switch (what) {
            case 0 -> b.state;
            case 1 -> b.recipe;
            case 2 -> b.size;
            case 3 -> b.tokens.size();
            case 4 -> (int) b.tokens.stream().filter(t -> t.begun).count();
            default -> NONE;
        };
    }

    int token(int batch, int i) {
        if (batch < 0 || batch >= batches.size() || i < 0 || i >= batches.get(batch).tokens.size()) {
            return NONE;
        }
        T t = batches.get(batch).tokens.get(i);
        return t.at + (t.begun ? 16 : 0);
    }

    int unitOf(int batch, int role) {
        if (batch < 0 || batch >= batches.size()) {
            return NONE;
        }
        return batches.get(batch).own.getOrDefault(role, NONE);
    }

    int unitIs(int unit, int what) {
        if (unit < 0 || unit > 5) {
            return NONE;
        }
        U u = units.get(unit);
        return switch (what) {
            case 0 -> u.owner;
            case 1 -> u.group;
            case 2 -> u.content.size();
            case 3 -> u.total();
            default -> NONE;
        };
    }

    private static int pick(Map<Integer, Integer> rows, int i, int what) {
        if (i < 0 || i >= rows.size()) {
            return NONE;
        }
        Map.Entry<Integer, Integer> row = new ArrayList<>(rows.entrySet()).get(i);
        return what == 0 ? row.getKey() : what == 1 ? row.getValue() : NONE;
    }

    int content(int unit, int i, int what) {
        return unit < 0 || unit > 5 ? NONE : pick(units.get(unit).content, i, what);
    }

    int lot(int lot, int what) {
        if (lot < 0 || lot >= lots.size()) {
            return NONE;
        }
        return switch (what) {
            case 0 -> lots.get(lot).batch;
            case 1 -> lots.get(lot).step;
            case 2 -> units.stream().mapToInt(u -> u.content.getOrDefault(lot, 0)).sum();
            case 3 -> lots.get(lot).from.size();
            case 4 -> (int) lots.stream().filter(l -> l.from.containsKey(lot)).count();
            default -> NONE;
        };
    }

    int from(int lot, int i, int what) {
        return lot < 0 || lot >= lots.size() ? NONE : pick(lots.get(lot).from, i, what);
    }

    private void gather(int lot, boolean outcomes, Set<Integer> found) {
        for (int other = 0; other < lots.size(); other++) {
            boolean near = outcomes ? lots.get(other).from.containsKey(lot) : lots.get(lot).from.containsKey(other);
            if (near && found.add(other)) {
                gather(other, outcomes, found);
            }
        }
    }

    int trace(int lot, boolean outcomes, int i) {
        if (lot < 0 || lot >= lots.size()) {
            return NONE;
        }
        TreeSet<Integer> found = new TreeSet<>();
        gather(lot, outcomes, found);
        return i < 0 || i >= found.size() ? NONE : new ArrayList<>(found).get(i);
    }

    int lots() {
        return lots.size();
    }
}
