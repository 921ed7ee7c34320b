import java.util.Random;

/**
 * BEST on days with many JOBS: in the course of a day compared with the Oracle, and at its beginning, on many more days,
 * with AllPlans; both look at all PLANS there are. Argument: how many times as many days (for a longer hunt).
 */
public final class PlannerTest {
    private static int wrong;

    public static void main(String[] args) {
        int times = args.length > 0 ? Integer.parseInt(args[0]) : 1;
        for (int seed = 0; seed < 12 * times; seed++) {
            oneDay(seed, seed % 4 == 0 ? 7 : 6);
        }
        for (int seed = 0; seed < 1500 * times; seed++) {
            oneMorning(seed, 7, 1);
            oneMorning(seed, 2 + seed % 4, 1 + seed % 3);
        }
        for (int seed = 0; seed < 240 * times; seed++) {
            oneMorning(seed, 7, 2);
        }
        for (int seed = 0; seed < 80 * times; seed++) {
            oneMorning(seed, 7, 3);
        }
        System.out.println(wrong == 0 ? "planner: all plans as the oracle's" : "planner: " + wrong + " WRONG");
        if (wrong != 0) {
            System.exit(1);
        }
    }

    private static void oneDay(int seed, int cottages) {
        Random random = new Random(seed);
        CottageYear year = new CottageYear();
        Oracle oracle = new Oracle();
        for (int c = 0; c < cottages; c++) {
            int minutes = 10 + random.nextInt(seed % 3 == 0 ? 40 : 200);
            year.cottage(12, true, 100, minutes);
            oracle.cottage(12, true, 100, minutes);
        }
        for (int t = seed % 5 == 1 ? 1 : 0; t < 3; t++) {
            int load = 12 + random.nextInt(19);
            year.team(load);
            oracle.team(load);
        }
        for (int one = 0; one < 8 && seed % 3 > 0; one++) {
            for (int other = 0; other < one; other++) {
                int minutes = random.nextInt(seed % 2 == 0 ? 91 : 15);
                year.way(one, other, minutes);
                oracle.way(one, other, minutes);
            }
        }
        for (int c = 0; c < 2 * cottages; c++) {
            int guests = 1 + random.nextInt(12);
            year.book(c % cottages, c / cottages, guests, c % 3 == 0, 0);
            oracle.book(c % cottages, c / cottages, guests, c % 3 == 0, 0);
        }
        year.openDay();
        year.closeDay();
        oracle.openDay();
        oracle.closeDay();
        due(seed, "openDay", year.openDay(), oracle.openDay());
        for (int turn = 0; turn < 4; turn++) {
            for (int c = 0; c < cottages; c++) {
                if (random.nextInt(3) == 0) {
                    int out = 600 + random.nextInt(500);
                    due(seed, "late", year.late(c, out) ? 1 : 0, oracle.late(c, out) ? 1 : 0);
                }
            }
            compare(seed, year, oracle);
            int n = turn == 0 ? 500 : random.nextInt(200);
            due(seed, "tick", year.tick(n), oracle.tick(n));
        }
    }

    private static void oneMorning(int seed, int cottages, int teams) {
        Random random = new Random(7 * seed + teams);
        CottageYear year = Years.alike(cottages);
        int[] loads = new int[teams];
        for (int t = 0; t < teams; t++) {
            loads[t] = 12 + random.nextInt(seed % 2 == 0 ? 4 : 19);
            year.team(loads[t]);
        }
        int[][] ways = anyWays(year, random, seed % 3 == 0 ? 16 : 91);
        int rest = random.nextInt(61);
        year.rest(rest);
        for (int c = 0; c < 2 * cottages; c++) {
            if (c < cottages || random.nextInt(5) > 0) {
                year.book(c % cottages, c / cottages, 1 + random.nextInt(12), false, 0);
            }
        }
        Check.pass(year, 1);
        year.openDay();
        AllPlans all = new AllPlans(ways, rest, loads);
        for (int turn = 0; turn < 3; turn++) {
            tellJobsAnew(year, random, cottages, turn);
            all.read(year);
            all.find();
            for (int what = 0; what < 3; what++) {
                due(seed, "morning: best(" + what + ")", year.best(what), all.cost(what));
            }
            year.plan();
            all.plan();
            for (int t = 0; t < teams; t++) {
                for (int i = 0; i < 8; i++) {
                    due(seed, "morning: row " + t + " " + i, year.row(t, i), all.row(t, i));
                }
            }
        }
    }

    private static int[][] anyWays(CottageYear year, Random random, int below) {
        int[][] ways = new int[8][8];
        for (int one = 0; one < 8; one++) {
            for (int other = 0; other < one; other++) {
                ways[one][other] = random.nextInt(below);
                ways[other][one] = ways[one][other];
                year.way(one, other, ways[one][other]);
            }
        }
        return ways;
    }

    /** Times that leave little room: hard DAYS, on which it counts when a TEAM is free and how many sets it has LEFT. */
    private static void tellJobsAnew(CottageYear year, Random random, int cottages, int turn) {
        int longest = 1 + random.nextInt(150);
        int spread = 1 + random.nextInt(1000);
        for (int c = 0; c < cottages; c++) {
            if (turn == 0 || random.nextInt(3) == 0) {
                year.late(c, Math.min(1440, 300 + random.nextInt(spread)));
                year.state(c, 1 + random.nextInt(longest));
            }
        }
    }

    private static void compare(int seed, CottageYear year, Oracle oracle) {
        int late = year.best(0);
        int moved = year.best(1);
        int minutes = year.best(2);
        oracle.plan();
        due(seed, "best(0)", late, oracle.bestCost[0]);
        due(seed, "best(1)", moved, oracle.bestCost[1]);
        due(seed, "best(2)", minutes, oracle.bestCost[2]);
        due(seed, "plan", year.plan() ? 1 : 0, 1);
        for (int t = 0; t < 3; t++) {
            for (int i = 0; i < 8; i++) {
                due(seed, "row " + t + " " + i, year.row(t, i), oracle.row(t, i));
            }
        }
    }

    private static void due(int seed, String call, long got, long want) {
        if (got != want) {
            wrong++;
            System.out.println("seed " + seed + ": " + call + " answered " + got + ", due is " + want);
        }
    }
}
