import java.util.NoSuchElementException;

/** Years to begin a test with. */
final class Years {
    static final int THROWN = -99;

    private Years() {
    }

    static int about(CottageYear year, int team, int what) {
        try {
            return year.about(team, what);
        } catch (NoSuchElementException thrown) {
            return THROWN;
        }
    }

    /** So many COTTAGES alike: twelve BEDS, DOGS, RENT 100, 10 MINUTES. */
    static CottageYear alike(int many) {
        CottageYear year = new CottageYear();
        for (int i = 0; i < many; i++) {
            year.cottage(12, true, 100, 10);
        }
        return year;
    }

    /** W is so much; no DAY is open. */
    static CottageYear at(CottageYear year, int week) {
        Check.pass(year, week - year.count(0));
        return year;
    }

    /** NOW is so much. */
    static CottageYear till(CottageYear year, int minute) {
        for (int i = 0; i < 3 && year.count(2) < minute; i++) {
            year.tick(Math.min(500, minute - year.count(2)));
        }
        return year;
    }

    /** A year with something of all there is; W is 2, its DAY not opened. */
    static CottageYear rich() {
        CottageYear year = Check.threeCottages();
        year.team(20);
        year.team(15);
        year.way(0, 1, 4);
        year.way(2, 3, 6);
        year.rest(7);
        year.linen(13, 6);
        Check.tape(year, "c+l*2");
        year.terms(0);
        for (int week = 0; week < 3; week++) {
            year.book(0, week, 3, week == 1, 100);
            year.book(1, week, 2, false, 50);
        }
        year.book(2, 1, 5, false, 10);
        year.book(2, 3, 4, true, 9);
        year.shut(2, 3, true);
        year.book(2, 4, 1, false, 9);
        year.cancel(8);
        year.look(0, 9, 8, 7);
        year.worth(1, 3);
        Check.pass(year, 1);
        year.look(0, 6, 7, 9);
        year.openDay();
        year.late(1, 940);
        year.plan();
        till(year, 1000);
        year.complain(3, 1);
        year.complain(0, 2);
        year.closeDay();
        Check.tape(year, "l>3?c;g*4");
        year.terms(1);
        Check.tape(year, "c+1");
        return year;
    }

    /** The same, the DAY of W opened, planned, 650 minutes gone: the first TEAM cleans, something is in a row. */
    static CottageYear richDay() {
        CottageYear year = rich();
        year.openDay();
        year.plan();
        return till(year, 650);
    }

    /** The same, all JOBS READY. */
    static CottageYear richEvening() {
        return till(richDay(), 1100);
    }

    /** As many of all as there may be; W is 1, its DAY open, all JOBS READY. */
    static CottageYear full() {
        CottageYear year = alike(7);
        for (int i = 0; i < 3; i++) {
            year.team(30);
        }
        for (int i = 0; i < 60; i++) {
            year.book(i % 7, i / 7, 1, false, 100);
        }
        for (int i = 0; i < 20; i++) {
            Check.feed(year, "c");
            year.terms(i);
        }
        for (int i = 0; i < 60; i++) {
            year.look(i % 7, 60 - i, 50, 50);
        }
        Check.feed(year, "c+c+c+c+c+c+c+c+c+c+".repeat(6));
        Check.pass(year, 1);
        year.openDay();
        year.plan();
        till(year, 1440);
        for (int i = 0; i < 60; i++) {
            year.complain(7 + i % 7, i % 4);
        }
        return year;
    }

    /** The same as rich, W is 52. */
    static CottageYear richOver() {
        return at(rich(), 52);
    }
}
