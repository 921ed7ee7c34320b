import java.util.Random;

/** BEST on days with many JOBS, compared with the Oracle, which looks at all PLANS there are. */
public final class PlannerTest {
    private static int wrong;

    public static void main(String[] args) {
        int runs = args.length > 0 ? Integer.parseInt(args[0]) : 12;
        for (int seed = 0; seed < runs; seed++) {
            oneDay(seed, seed % 4 == 0 ? 7 : 6);
        }
        System.out.println(wrong == 0 ? "planner: all plans as the oracle's" : "planner: " + wrong + " WRONG");
        if (wrong != 0) {
            System.exit(1);
        }
    }

    private static void oneDay(int seed, int cottages) {
        Random random = new Random(seed);
        CottageYear year = new CottageYear();
        Oracle oracle = new Oracle();
        for (int c = 0; c < cottages; c++) {
            int minutes = 10 + random.nextInt(seed % 3 == 0 ? 40 : 200);
            year.cottage(12, true, 100, minutes);
            oracle.cottage(12, true, 100, minutes);
        }
        for (int t = seed % 5 == 1 ? 1 : 0; t < 3; t++) {
            int load = 12 + random.nextInt(19);
            year.team(load);
            oracle.team(load);
        }
        for (int one = 0; one < 8 && seed % 3 > 0; one++) {
            for (int other = 0; other < one; other++) {
                int minutes = random.nextInt(seed % 2 == 0 ? 91 : 15);
                year.way(one, other, minutes);
                oracle.way(one, other, minutes);
            }
        }
        for (int c = 0; c < 2 * cottages; c++) {
            int guests = 1 + random.nextInt(12);
            year.book(c % cottages, c / cottages, guests, c % 3 == 0, 0);
            oracle.book(c % cottages, c / cottages, guests, c % 3 == 0, 0);
        }
        year.openDay();
        year.closeDay();
        oracle.openDay();
        oracle.closeDay();
        due(seed, "openDay", year.openDay(), oracle.openDay());
        for (int turn = 0; turn < 4; turn++) {
            for (int c = 0; c < cottages; c++) {
                if (random.nextInt(3) == 0) {
                    int out = 600 + random.nextInt(500);
                    due(seed, "late", year.late(c, out) ? 1 : 0, oracle.late(c, out) ? 1 : 0);
                }
            }
            compare(seed, year, oracle);
            int n = turn == 0 ? 500 : random.nextInt(200);
            due(seed, "tick", year.tick(n), oracle.tick(n));
        }
    }

    private static void compare(int seed, CottageYear year, Oracle oracle) {
        int late = year.best(0);
        int moved = year.best(1);
        int minutes = year.best(2);
        oracle.plan();
        due(seed, "best(0)", late, oracle.bestCost[0]);
        due(seed, "best(1)", moved, oracle.bestCost[1]);
        due(seed, "best(2)", minutes, oracle.bestCost[2]);
        due(seed, "plan", year.plan() ? 1 : 0, 1);
        for (int t = 0; t < 3; t++) {
            for (int i = 0; i < 8; i++) {
                due(seed, "row " + t + " " + i, year.row(t, i), oracle.row(t, i));
            }
        }
    }

    private static void due(int seed, String call, long got, long want) {
        if (got != want) {
            wrong++;
            System.out.println("seed " + seed + ": " + call + " answered " + got + ", due is " + want);
        }
    }
}
