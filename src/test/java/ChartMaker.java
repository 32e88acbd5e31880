import java.util.ArrayList;
import java.util.List;
import java.util.Random;

/** Makes charts at random: well-formed ones, of which some are then spoilt at a few places. */
final class ChartMaker {
    private final Random random;
    private final List<int[]> steps = new ArrayList<>();
    private List<int[]> loose = new ArrayList<>();
    private int reserved;

    ChartMaker(Random random) {
        this.random = random;
    }

    /** Rows of kind, a, b, c, NEXT, OTHER. */
    List<int[]> make(int spoilt) {
        reserved = 1;
        // Most charts measure first, so that their choices may be made.
        for (int name = 0; name < 2; name++) {
            if (random.nextInt(4) > 0) {
                add(4, random.nextInt(3), name, 0);
            }
        }
        sequence(1 + random.nextInt(6), 0);
        add(9, 0, 0, 0);
        for (int i = 0; i < spoilt; i++) {
            spoil();
        }
        return steps;
    }

    private void spoil() {
        int[] row = steps.get(random.nextInt(steps.size()));
        int column = random.nextInt(3) == 0 ? random.nextInt(4) : 4 + random.nextInt(2);
        row[column] = column == 0 ? random.nextInt(10) : random.nextInt(14) - 1;
    }

    private int room() {
        return 12 - steps.size() - reserved;
    }

    private int add(int kind, int a, int b, int c) {
        int number = steps.size();
        for (int[] end : loose) {
            steps.get(end[0])[end[1]] = number;
        }
        steps.add(new int[] {kind, a, b, c, -1, random.nextInt(3) - 1});
        loose = new ArrayList<>();
        loose.add(new int[] {number, 4});
        return number;
    }

    private void sequence(int items, int depth) {
        for (int i = 0; i < items && room() > 0; i++) {
            int dice = random.nextInt(12);
            if (dice < 2 && room() >= 4 && depth < 3) {
                fork(depth);
            } else if (dice < 4 && room() >= 2) {
                choice(depth);
            } else if (dice < 6 && room() >= 2) {
                loop(depth);
            } else {
                phase();
            }
        }
    }

    private void phase() {
        int a = random.nextInt(3);
        switch (random.nextInt(8)) {
            case 0:
            case 1:
            case 2:
                add(0, a, random.nextInt(4) == 0 ? 0 : random.nextInt(45), random.nextInt(4));
                break;
            case 3:
                add(1, a, 1 + random.nextInt(3), 0);
                break;
            case 4:
            case 5:
                add(2, a, (a + 1 + random.nextInt(2)) % 3, 1 + random.nextInt(100));
                break;
            case 6:
                add(3, a, 1 + random.nextInt(2), 0);
                break;
            default:
                add(4, a, random.nextInt(2), 0);
                break;
        }
    }

    private void fork(int depth) {
        int fork = add(5, 0, 0, 0);
        reserved += 2;
        sequenceWithOne(depth);
        List<int[]> ends = loose;
        loose = new ArrayList<>();
        loose.add(new int[] {fork, 5});
        reserved--;
        sequenceWithOne(depth);
        loose.addAll(ends);
        reserved--;
        add(6, 0, 0, 0);
    }

    private void sequenceWithOne(int depth) {
        if (random.nextInt(3) > 0 || room() < 4) {
            phase();
        }
        int before = steps.size();
        sequence(random.nextInt(3), depth + 1);
        if (steps.size() == before && random.nextInt(2) == 0 && room() > 0) {
            phase();
        }
    }

    private void choice(int depth) {
        int choice = add(7, random.nextInt(2), random.nextInt(3), 0);
        sequence(random.nextInt(2), depth);
        List<int[]> ends = loose;
        loose = new ArrayList<>();
        loose.add(new int[] {choice, 5});
        sequence(random.nextInt(2), depth);
        loose.addAll(ends);
    }

    private void loop(int depth) {
        int target = steps.size();
        reserved++;
        sequence(1 + random.nextInt(2), depth);
        reserved--;
        int loop = add(8, 1 + random.nextInt(3), 0, 0);
        steps.get(loop)[5] = target;
    }
}
