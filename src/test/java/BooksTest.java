/** Promises 35 to 44. */
public final class BooksTest {
    private static final int NONE = CottageYear.NONE;
    private static final int REFUSED = -2;
    private static final long TIMES = 6364136223846793005L;
    private static final long PLUS = 1442695040888963407L;
    private static final Check CHECK = new Check("books");

    public static void main(String[] args) {
        look();
        worth();
        lost();
        kept();
        complain();
        complainByAMinute();
        complainAtMost();
        blamed();
        draw();
        drawByLateness();
        drawByBlame();
        code();
        codesDiffer();
        door();
        count();
        CHECK.end();
    }

    private static void due(String call, long got, long want) {
        CHECK.due(call, got, want);
    }

    private static void due(String call, boolean got, boolean want) {
        CHECK.due(call, got, want);
    }

    private static void look() {
        CottageYear year = Check.threeCottages();
        due("35 lowest", year.look(0, 0, 0, 0), 1);
        due("35 highest", year.look(2, 99, 99, 99), 2);
        due("35 no cottage", year.look(3, 0, 0, 0), NONE);
        due("35 no cottage", year.look(-1, 0, 0, 0), NONE);
        due("35 above", year.look(0, 100, 0, 0), NONE);
        due("35 above", year.look(0, 0, 100, 0), NONE);
        due("35 above", year.look(0, 0, 0, 100), NONE);
        due("35 below", year.look(0, -1, 0, 0), NONE);
        due("35 below", year.look(0, 0, -1, 0), NONE);
        due("35 below", year.look(0, 0, 0, -1), NONE);
        for (int i = 3; i <= 60; i++) {
            due("35 many", year.look(i % 3, 1, 1, 1), i);
        }
        due("35 the 61st", year.look(0, 1, 1, 1), NONE);
        due("44 looks", year.count(10), 60);
    }

    private static void worth() {
        CottageYear year = stayBetweenLooks(1000);
        due("36 one at first", year.kept(0), 3 + 2);
        due("36 highest", year.worth(0, 100), true);
        due("36 none", year.worth(2, 0), true);
        due("36 kept by it", year.kept(0), 300);
        due("36 no thing", year.worth(3, 1), false);
        due("36 no thing", year.worth(-1, 1), false);
        due("36 below", year.worth(0, -1), false);
        due("36 above", year.worth(0, 101), false);
        due("36 refused", year.kept(0), 300);
        due("36 the other", year.worth(2, 7), true);
        due("36 kept by both", year.kept(0), 314);
        CottageYear middle = Check.threeCottages();
        middle.book(0, 0, 1, false, 1000);
        middle.look(0, 10, 50, 3);
        middle.openDay();
        middle.look(0, 11, 30, 3);
        due("36 one at first", middle.kept(0), 20);
        due("37 thing 1", middle.lost(0, 1), 20);
        due("36 thing 1", middle.worth(1, 3), true);
        due("36 by three", middle.kept(0), 60);
    }

    /** A LOOK, a STAY with a DEPOSIT, a LOOK: 3 lost of thing 0, one more of thing 1, 2 lost of thing 2. */
    private static CottageYear stayBetweenLooks(int deposit) {
        CottageYear year = Check.threeCottages();
        year.book(0, 0, 1, false, deposit);
        year.look(0, 10, 5, 99);
        year.openDay();
        year.look(1, 50, 50, 50);
        year.look(0, 7, 6, 97);
        return year;
    }

    private static void lost() {
        CottageYear year = stayBetweenLooks(100);
        due("37 lost", year.lost(0, 0), 3);
        due("37 one more", year.lost(0, 1), 0);
        due("37 lost", year.lost(0, 2), 2);
        due("37 no thing", year.lost(0, 3), NONE);
        due("37 no thing", year.lost(0, -1), NONE);
        due("37 no booking", year.lost(1, 0), NONE);
        due("37 no booking", year.lost(-1, 0), NONE);
        year.look(0, 1, 1, 1);
        due("37 by the next look", year.lost(0, 0), 3);
        year.book(0, 1, 1, false, 100);
        due("37 not begun", year.lost(1, 0), NONE);
        year.closeDay();
        year.openDay();
        due("37 none behind it", year.lost(1, 0), NONE);
        year.closeDay();
        year.book(0, 2, 1, false, 100);
        year.openDay();
        due("37 a stay behind it", year.lost(1, 0), NONE);
        year.look(0, 0, 0, 0);
        due("37 a stay behind it", year.lost(1, 0), NONE);
        due("37 a stay ahead of it", year.lost(2, 0), NONE);
        CottageYear none = Check.threeCottages();
        none.book(0, 0, 1, false, 0);
        none.look(1, 9, 9, 9);
        none.openDay();
        none.look(0, 1, 1, 1);
        due("37 none ahead of it", none.lost(0, 0), NONE);
    }

    private static void kept() {
        due("38 the deposit at most", stayBetweenLooks(4).kept(0), 4);
        due("38 just the deposit", stayBetweenLooks(5).kept(0), 5);
        due("38 less than the deposit", stayBetweenLooks(6).kept(0), 5);
        CottageYear year = Check.threeCottages();
        year.book(0, 0, 1, false, 100);
        due("38 not begun", year.kept(0), NONE);
        due("38 no such", year.kept(1), NONE);
        due("38 no such", year.kept(-1), NONE);
        year.openDay();
        due("38 nobody knows", year.kept(0), 0);
    }

    /** Two COTTAGES let in WEEKS 0 and 1; on the DAY of WEEK 1 the first is READY and late, the second READY. */
    private static CottageYear twoJobs() {
        CottageYear year = Check.threeCottages();
        year.team(12);
        year.team(12);
        for (int week = 0; week < 2; week++) {
            year.book(0, week, 1, false, 0);
            year.book(1, week, 1, false, 0);
        }
        year.book(2, 1, 1, false, 0);
        Check.pass(year, 1);
        year.openDay();
        year.late(0, 950);
        year.late(1, 900);
        year.state(1, 55);
        year.plan();
        year.tick(500);
        year.tick(490);
        return year;
    }

    private static void complain() {
        CottageYear year = twoJobs();
        due("39 not ready yet", year.complain(2, 0), NONE);
        year.tick(23);
        due("24 ready", year.job(1, 0, 5), 1013);
        due("39 dirt", year.complain(2, 0), 0);
        due("39 late", year.complain(2, 1), 0);
        due("39 broken", year.complain(2, 2), NONE);
        due("39 noise", year.complain(2, 3), NONE);
        due("39 dirt by the other team", year.complain(3, 0), 1);
        due("39 it was not late", year.complain(3, 1), NONE);
        due("39 who left did not come on this day", year.complain(0, 0), NONE);
        due("39 no job there", year.complain(4, 0), NONE);
        due("39 no kind", year.complain(2, 4), REFUSED);
        due("39 no kind", year.complain(2, -1), REFUSED);
        due("39 no booking", year.complain(5, 0), REFUSED);
        due("39 no booking", year.complain(-1, 0), REFUSED);
        year.book(0, 2, 1, false, 0);
        due("39 not begun", year.complain(5, 0), REFUSED);
        due("44 complaints", year.count(11), 9);
        due("10 complaints of it", year.booked(2, 8), 5);
        year.closeDay();
        due("39 later", year.complain(2, 0), 0);
        due("40 blamed for dirt", year.blamed(0, 0), 2);
        due("40 blamed for late", year.blamed(0, 1), 1);
    }

    /** A JOB that is LATE by one minute, and one that is READY just in time. */
    private static void complainByAMinute() {
        for (int out = 907; out < 909; out++) {
            CottageYear year = Check.threeCottages();
            year.team(12);
            year.book(1, 0, 2, false, 0);
            year.book(1, 1, 2, false, 0);
            Check.pass(year, 1);
            year.openDay();
            year.late(1, out + 7);
            year.plan();
            year.tick(500);
            year.tick(500);
            due("24 late", year.job(1, 1, 6), out - 907);
            due("39 late", year.complain(1, 1), out == 907 ? NONE : 0);
            due("40 late", year.blamed(0, 1), out - 907);
        }
    }

    private static void drawByLateness() {
        CottageYear year = twoJobs();
        year.tick(23);
        year.complain(2, 1);
        year.complain(2, 1);
        year.complain(2, 0);
        year.complain(3, 0);
        int[] weights = {4, 2};
        for (long seed = 0; seed < 40; seed++) {
            due("41 draw(1, " + seed + ")", year.draw(1, seed), 1 << pick(weights, 0, seed * TIMES + PLUS >>> 33));
        }
    }

    private static void complainAtMost() {
        CottageYear year = Check.threeCottages();
        year.book(0, 0, 1, false, 0);
        year.openDay();
        for (int i = 0; i < 60; i++) {
            due("39 many", year.complain(0, i % 4), NONE);
        }
        due("39 the 61st", year.complain(0, 0), REFUSED);
        due("44 complaints", year.count(11), 60);
    }

    private static void blamed() {
        CottageYear year = twoJobs();
        year.tick(23);
        due("40 none", year.blamed(0, 0), 0);
        year.complain(2, 0);
        year.complain(2, 2);
        year.complain(3, 0);
        year.complain(3, 0);
        due("40 dirt", year.blamed(0, 0), 1);
        due("40 late", year.blamed(0, 1), 0);
        due("40 broken", year.blamed(0, 2), 0);
        due("40 noise", year.blamed(0, 3), 0);
        due("40 the other", year.blamed(1, 0), 2);
        due("40 no team", year.blamed(2, 0), NONE);
        due("40 no team", year.blamed(-1, 0), NONE);
        due("40 no kind", year.blamed(0, 4), NONE);
        due("40 no kind", year.blamed(0, -1), NONE);
    }

    private static void draw() {
        CottageYear year = twoJobs();
        due("41 the first is not ready", year.draw(2, 1), NONE);
        due("41 so the second is drawn", year.draw(1, 1), 2);
        year.tick(23);
        for (long seed = -5; seed < 6; seed++) {
            long x = seed * TIMES + PLUS;
            due("41 one of two", year.draw(1, seed), (x >>> 33) % 2 == 0 ? 1 : 2);
            due("41 both", year.draw(2, seed), 3);
        }
        due("41 none", year.draw(0, 1), NONE);
        due("41 below", year.draw(-1, 1), NONE);
        due("41 more than are ready", year.draw(3, 1), NONE);
        due("41 highest seed", year.draw(2, Long.MAX_VALUE), 3);
        year.closeDay();
        due("41 no day", year.draw(1, 1), NONE);
    }

    private static void drawByBlame() {
        CottageYear year = Check.threeCottages();
        year.team(30);
        year.team(30);
        for (int week = 0; week < 2; week++) {
            for (int c = 0; c < 3; c++) {
                year.book(c, week, 1, false, 0);
            }
        }
        Check.pass(year, 1);
        year.openDay();
        year.late(0, 900);
        year.late(1, 850);
        year.late(2, 850);
        year.plan();
        year.tick(500);
        year.tick(500);
        due("24 who went to 0", year.job(1, 0, 7), 0);
        due("24 who went to 1", year.job(1, 1, 7), 0);
        due("24 who went to 2", year.job(1, 2, 7), 1);
        year.complain(5, 0);
        year.complain(5, 0);
        year.complain(4, 0);
        int[] weights = {2, 2, 3};
        for (long seed = 0; seed < 40; seed++) {
            int drawn = 0;
            long x = seed;
            for (int n = 1; n <= 3; n++) {
                x = x * TIMES + PLUS;
                drawn |= 1 << pick(weights, drawn, x >>> 33);
                due("41 draw(" + n + ", " + seed + ")", year.draw(n, seed), drawn);
            }
        }
    }

    private static int pick(int[] weights, int drawn, long number) {
        StringBuilder pot = new StringBuilder();
        for (int c = 0; c < weights.length; c++) {
            for (int i = 0; i < weights[c] && (drawn >> c & 1) == 0; i++) {
                pot.append(c);
            }
        }
        return pot.charAt((int) (number % pot.length())) - '0';
    }

    private static int nextCode(long y) {
        return (int) ((y >>> 33) % 10000);
    }

    private static void code() {
        CottageYear year = Check.threeCottages();
        year.book(2, 0, 1, false, 0);
        year.book(1, 0, 1, false, 0);
        year.book(0, 0, 1, false, 0);
        year.book(0, 1, 1, false, 0);
        year.shut(1, 0, true);
        due("42 not begun", year.code(0), NONE);
        year.openDay();
        long y = TIMES + PLUS;
        due("42 cottage 0", year.code(2), nextCode(y));
        y = y * TIMES + PLUS;
        due("42 cottage 2", year.code(0), nextCode(y));
        due("42 a shut one", year.code(1), NONE);
        year.closeDay();
        year.openDay();
        y = y * TIMES + PLUS;
        due("42 the next week goes on", year.code(3), nextCode(y));
        due("42 the old one stays", year.code(2), 4774);
        due("42 no such", year.code(4), NONE);
        due("42 no such", year.code(-1), NONE);
    }

    /** None of the first 60 CODES comes twice, so that the rule of the three STAYS ahead never shows. */
    private static void codesDiffer() {
        CottageYear year = Check.threeCottages();
        long y = 1;
        for (int i = 0; i < 20; i++) {
            for (int c = 2; c >= 0; c--) {
                year.book(c, i, 1, false, 0);
            }
            year.openDay();
            for (int c = 0; c < 3; c++) {
                y = y * TIMES + PLUS;
                due("42 code of week " + i + ", cottage " + c, year.code(3 * i + 2 - c), nextCode(y));
            }
            year.closeDay();
        }
    }

    private static void door() {
        CottageYear year = twoJobs();
        year.tick(23);
        int leaves = year.code(0);
        int comes = year.code(2);
        int comesAlone = year.code(4);
        due("43 who leaves, at first", year.door(0, leaves, 0), true);
        due("43 who leaves, till out", year.door(0, leaves, 949), true);
        due("43 that minute not", year.door(0, leaves, 950), false);
        due("43 who comes, not ready", year.door(0, comes, 1012), false);
        due("43 who comes, ready", year.door(0, comes, 1013), true);
        due("43 behind now", year.door(0, comes, 1014), false);
        due("43 ahead of the day", year.door(0, leaves, -1), false);
        due("43 another door", year.door(1, leaves, 0), false);
        due("43 no cottage", year.door(3, leaves, 0), false);
        due("43 no cottage", year.door(-1, leaves, 0), false);
        due("43 no code", year.door(0, -1, 0), false);
        due("43 without a job", year.door(2, comesAlone, 959), false);
        due("43 without a job", year.door(2, comesAlone, 960), true);
        year.closeDay();
        due("43 no day", year.door(0, leaves, 0), false);
        year.openDay();
        due("43 a code of old", year.door(0, leaves, 0), false);
        due("43 who leaves now", year.door(0, comes, 0), true);
        due("43 nobody comes", year.door(0, NONE, 0), false);
        year.tick(500);
        year.tick(500);
        due("43 who leaves, out", year.door(0, comes, 600), false);
        due("43 a job not ready", year.door(0, comes, 1000), false);
    }

    private static void count() {
        CottageYear year = twoJobs();
        year.tick(23);
        int[] want = {1, 1, 1013, 3, 5, 5, 2, 0, 0, 0, 0, 0, 0, 53, 0};
        for (int what = 0; what < want.length; what++) {
            due("44 count(" + what + ")", year.count(what), want[what]);
        }
        due("44 what", year.count(15), NONE);
        due("44 what", year.count(-1), NONE);
        year.book(0, 5, 1, false, 0);
        year.cancel(5);
        due("44 bookings", year.count(4), 6);
        due("44 in force", year.count(5), 5);
        year.closeDay();
        due("44 none left out", year.count(12), 0);
        year.openDay();
        due("44 none is left out till it is closed", year.count(12), 0);
        year.closeDay();
        due("44 three left out", year.count(12), 3);
        due("44 late stays", year.count(13), 53);
    }
}
