import java.util.Arrays;

/** BEST of a DAY at its beginning, by trying every PLAN there is, the likelier ones first. */
final class AllPlans {
    private static final long LATE = 1000000000;
    private static final long MOVED = 1000000;
    private final int[][] ways;
    private final int rest;
    private final int[] loads;
    private int jobs;
    private int[] out;
    private int[] due;
    private int[] clean;
    private int[] linen;
    /** In whose row each JOB is in the PLAN at hand. */
    private final int[] before = new int[7];
    private long best;
    private final int[][] bestRows = new int[3][8];
    private final int[][] rows = new int[3][8];

    AllPlans(int[][] ways, int rest, int... loads) {
        this.ways = ways;
        this.rest = rest;
        this.loads = loads;
        Arrays.fill(before, -1);
    }

    /** What is told of the JOBS of COTTAGES 0 and on, on the DAY of WEEK 1. */
    void read(CottageYear year) {
        jobs = year.count(3);
        out = answers(year, 0);
        due = answers(year, 1);
        clean = answers(year, 2);
        linen = answers(year, 3);
    }

    private int[] answers(CottageYear year, int what) {
        int[] answers = new int[jobs];
        for (int c = 0; c < jobs; c++) {
            answers[c] = year.job(1, c, what);
        }
        return answers;
    }

    void find() {
        best = Long.MAX_VALUE;
        go(0, 0, 0, 0, loads[0], (1 << jobs) - 1, 0);
    }

    private void go(int team, int many, int place, int time, int left, int todo, long cost) {
        for (int c = 0; c < jobs; c++) {
            if ((todo >> c & 1) == 0) {
                continue;
            }
            boolean byBase = left < linen[c];
            int minutes = byBase ? ways[place][0] + rest + ways[0][1 + c] : ways[place][1 + c];
            int ready = Math.max(time + minutes, out[c]) + clean[c];
            long more = LATE * Math.max(0, ready - due[c]) + (before[c] >= 0 && before[c] != team ? MOVED : 0) + minutes;
            rows[team][many] = c;
            go(team, many + 1, 1 + c, ready, (byBase ? loads[team] : left) - linen[c], todo & ~(1 << c), cost + more);
        }
        rows[team][many] = -1;
        if (team + 1 < loads.length) {
            go(team + 1, 0, 0, 0, loads[team + 1], todo, cost);
        } else if (todo == 0 && cost < best) {
            best = cost;
            for (int t = 0; t < loads.length; t++) {
                System.arraycopy(rows[t], 0, bestRows[t], 0, 8);
            }
        }
    }

    int cost(int what) {
        return (int) (what == 0 ? best / LATE : what == 1 ? best % LATE / MOVED : best % MOVED);
    }

    int row(int team, int i) {
        for (int k = 0; k < i; k++) {
            if (bestRows[team][k] < 0) {
                return -1;
            }
        }
        return bestRows[team][i];
    }

    /** BEST is the PLAN at hand. */
    void plan() {
        for (int t = 0; t < loads.length; t++) {
            for (int i = 0; i < 8 && row(t, i) >= 0; i++) {
                before[row(t, i)] = t;
            }
        }
    }
}
