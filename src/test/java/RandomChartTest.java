import java.util.Arrays;
import java.util.List;
import java.util.Random;

/** What release answers for many charts by fixed seeds, held against PlainHall. */
public final class RandomChartTest {
    private static final int HALLS = 30000;

    private static void write(BatchHall hall, PlainHall plain, int recipe, List<int[]> rows) {
        for (int[] x : rows) {
            hall.step(recipe, x[0], x[1], x[2], x[3]);
            plain.step(recipe, x[0], x[1], x[2], x[3]);
        }
        for (int i = 0; i < rows.size(); i++) {
            hall.link(recipe, i, rows.get(i)[4], rows.get(i)[5]);
            plain.link(recipe, i, rows.get(i)[4], rows.get(i)[5]);
        }
    }

    /** Any chart of steps that are SOUND, with links at random. */
    private static List<int[]> wild(Random random) {
        int count = 3 + random.nextInt(10);
        int[][] rows = new int[count][];
        for (int i = 0; i < count; i++) {
            int kind = i == count - 1 ? 9 : new int[] {1, 4, 4, 5, 5, 6, 6, 7, 8}[random.nextInt(9)];
            if (kind == 8 && i == 0) {
                kind = 5;
            }
            int later = Math.min(count - 1, i + 1 + random.nextInt(3));
            int other = Math.min(count - 1, i + 1 + random.nextInt(4));
            if (kind == 8) {
                other = random.nextInt(i);
            }
            int b = kind == 1 ? 1 : random.nextInt(2);
            rows[i] = new int[] {kind, kind == 8 ? 1 : random.nextInt(2), b, 0, later, other};
        }
        return Arrays.asList(rows);
    }

    public static void main(String[] args) {
        int[] faults = new int[6];
        for (int seed = 0; seed < HALLS && Check.isAllRight(); seed++) {
            Random random = new Random(seed);
            BatchHall hall = new BatchHall();
            PlainHall plain = new PlainHall();
            for (int recipe = 0; recipe < 4; recipe++) {
                for (int role = 0; role < 3; role++) {
                    hall.role(recipe, role, role / 2);
                    plain.role(recipe, role, role / 2);
                }
                if (random.nextInt(20) > 0) {
                    hall.unit(5, 1);
                    plain.unit(5, 1);
                }
                List<int[]> rows = recipe < 2 ? wild(random) : new ChartMaker(random).make(random.nextInt(4));
                write(hall, plain, recipe, rows);
                int got = hall.release(recipe);
                faults[got]++;
                Check.same("seed " + seed + ": release(" + recipe + ")", got, plain.release(recipe));
            }
        }
        System.out.println("releases by fault " + Arrays.toString(faults));
        Check.end();
    }
}
