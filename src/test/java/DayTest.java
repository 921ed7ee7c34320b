import java.util.NoSuchElementException;

/** Promises 12 to 24. */
public final class DayTest {
    private static final int NONE = CottageYear.NONE;
    private static final int THROWN = -99;
    private static final Check CHECK = new Check("day");

    public static void main(String[] args) {
        team();
        way();
        rest();
        openDay();
        closeDay();
        endOfYear();
        late();
        state();
        best();
        bestMoved();
        bestBusyTeams();
        bestTies();
        bestOnTheWay();
        exactLoad();
        plan();
        row();
        tick();
        wayOfNothing();
        waiting();
        about();
        byBase();
        job();
        CHECK.end();
    }

    private static void due(String call, long got, long want) {
        CHECK.due(call, got, want);
    }

    private static void due(String call, boolean got, boolean want) {
        CHECK.due(call, got, want);
    }

    /** Three COTTAGES, all let in WEEKS 0 and 1, the DAY of WEEK 1 opened, so many TEAMS. */
    private static CottageYear openedDay(int... loads) {
        CottageYear year = Check.threeCottages();
        for (int load : loads) {
            year.team(load);
        }
        for (int week = 0; week < 2; week++) {
            year.book(0, week, 3, week == 0, 0);
            year.book(1, week, 2, false, 0);
            year.book(2, week, 6, false, 0);
        }
        Check.pass(year, 1);
        year.openDay();
        return year;
    }

    private static int ask(CottageYear year, int team, int what) {
        try {
            return year.about(team, what);
        } catch (NoSuchElementException thrown) {
            return THROWN;
        }
    }

    private static void team() {
        CottageYear year = new CottageYear();
        due("12 below", year.team(11), NONE);
        due("12 above", year.team(31), NONE);
        due("12 lowest", year.team(12), 0);
        year.openDay();
        due("12 a day is open", year.team(20), NONE);
        year.closeDay();
        due("12 highest", year.team(30), 1);
        due("12 third", year.team(20), 2);
        due("12 fourth", year.team(20), NONE);
        due("12 count", year.count(6), 3);
    }

    private static void way() {
        CottageYear year = openedDay(20);
        due("13 at first 10", year.best(2), 30);
        due("13 way", year.way(0, 1, 90), true);
        due("13 the other way", year.way(2, 0, 0), true);
        due("13 by the near one", year.best(2), 20);
        due("13 alike", year.way(3, 3, 1), false);
        due("13 no place", year.way(-1, 3, 1), false);
        due("13 no place", year.way(3, 8, 1), false);
        due("13 a place without a cottage", year.way(7, 6, 1), true);
        due("13 below", year.way(1, 2, -1), false);
        due("13 above", year.way(1, 2, 91), false);
        year.way(2, 1, 33);
        year.way(1, 3, 33);
        year.way(3, 2, 33);
        due("13 either way alike", year.best(2), 66);
    }

    private static void rest() {
        CottageYear year = Check.threeCottages();
        year.cottage(12, true, 100, 10);
        year.cottage(12, true, 100, 10);
        year.team(12);
        for (int c = 3; c < 5; c++) {
            year.book(c, 0, 12, false, 0);
            year.book(c, 1, 12, false, 0);
        }
        Check.pass(year, 1);
        year.openDay();
        due("14 five at first", year.best(2), 10 + 10 + 5 + 10);
        due("14 rest", year.rest(60), true);
        due("14 then", year.best(2), 90);
        due("14 none", year.rest(0), true);
        due("14 then", year.best(2), 30);
        due("14 above", year.rest(61), false);
        due("14 below", year.rest(-1), false);
        due("14 refused", year.best(2), 30);
    }

    private static void openDay() {
        CottageYear year = Check.threeCottages();
        year.book(0, 0, 1, false, 0);
        year.book(1, 0, 1, false, 0);
        year.shut(1, 0, true);
        year.book(2, 1, 1, false, 0);
        due("15 no jobs in week 0", year.openDay(), 0);
        due("15 it is open", year.openDay(), NONE);
        due("15 open", year.count(1), 1);
        due("15 now", year.count(2), 0);
        due("15 a stay", year.booked(0, 7), 1);
        due("15 a shut one", year.booked(1, 7), 0);
        year.tick(7);
        year.closeDay();
        due("15 those who were there", year.openDay(), 1);
        due("15 now again", year.count(2), 0);
        due("15 the job", year.job(1, 0, 0), 600);
        due("15 no job", year.job(1, 1, 0), NONE);
        year.closeDay();
        due("15 of week 1", year.openDay(), 1);
    }

    private static void closeDay() {
        CottageYear year = openedDay(20);
        year.plan();
        year.tick(500);
        year.tick(200);
        due("16 none is left out till it is closed", year.count(12), 0);
        due("16 no lines without terms", year.closeDay(), 0);
        due("16 none is open", year.closeDay(), NONE);
        due("16 W", year.count(0), 2);
        due("16 not open", year.count(1), 0);
        due("16 no now", year.count(2), NONE);
        due("16 one was ready, two left out", year.count(12), 2);
        due("16 left out, begun", year.job(1, 1, 4), 699);
        due("16 left out, not ready", year.job(1, 1, 5), NONE);
    }

    private static void endOfYear() {
        CottageYear year = Check.threeCottages();
        year.book(0, 51, 1, false, 0);
        Check.pass(year, 52);
        due("15 the year is over", year.openDay(), NONE);
        due("16 W is 52", year.count(0), 52);
        due("44 begun in the last week", year.booked(0, 7), 1);
        due("4 no week is left", year.book(0, 51, 1, false, 0), NONE);
        due("7 no week is left", year.moves(51, 0), NONE);
        due("6 no week is left", year.shut(0, 51, true), false);
        due("5 no week is left", year.cancel(0), false);
        due("24 no job of a year that is over", year.job(52, 0, 0), NONE);
        Check.tape(year, "1");
        due("31 the year is over", year.terms(0), NONE);
        due("32 known at the end", year.force(0, 51), NONE);
        due("12 teams may still come", year.team(12), 0);
        due("2 cottages, too", year.cottage(1, true, 1, 10), 3);
    }

    private static void late() {
        CottageYear year = openedDay(20);
        due("17 late", year.late(0, 700), true);
        due("17 out", year.job(1, 0, 0), 700);
        due("17 no job", year.late(3, 700), false);
        due("17 no job", year.late(-1, 700), false);
        due("17 last", year.late(0, 1440), true);
        due("17 above", year.late(0, 1441), false);
        due("17 below", year.late(0, -1), false);
        year.tick(5);
        due("17 ahead of now", year.late(0, 4), false);
        due("17 now", year.late(0, 5), true);
        year.plan();
        year.tick(20);
        due("17 it was begun", year.job(1, 0, 4), 16);
        due("17 begun", year.late(0, 700), false);
        year.closeDay();
        due("17 no day", year.late(0, 700), false);
    }

    private static void state() {
        CottageYear year = openedDay(20);
        due("18 clean at first", year.job(1, 0, 2), 60 + 3 * 3 + 20);
        due("18 without a dog", year.job(1, 2, 2), 90 + 6 * 3);
        due("18 state", year.state(0, 400), true);
        due("18 clean", year.job(1, 0, 2), 400);
        due("18 lowest", year.state(0, 1), true);
        due("18 below", year.state(0, 0), false);
        due("18 above", year.state(0, 401), false);
        due("18 no job", year.state(3, 50), false);
        year.plan();
        year.tick(100);
        due("18 as a team waits", year.state(0, 2), true);
        year.tick(500);
        due("18 begun", year.state(0, 3), false);
        year.tick(2);
        due("18 ready by what was told", year.job(1, 0, 5), 602);
        year.closeDay();
        due("18 no day", year.state(0, 5), false);
    }

    private static void best() {
        CottageYear year = openedDay(20);
        due("19 89, 46, 108 minutes from 600 on: none late", year.best(0), 0);
        year.state(0, 200);
        year.state(2, 200);
        // 610 .. : 46, then 200, then 200 with ways of 10: 646, 856, 1066
        due("19 late", year.best(0), 106);
        due("19 moved", year.best(1), 0);
        due("19 minutes", year.best(2), 30);
        due("19 what", year.best(3), NONE);
        due("19 what", year.best(-1), NONE);
        year.closeDay();
        due("19 no day", year.best(0), NONE);
        CottageYear alone = openedDay();
        due("19 no teams", alone.best(0), NONE);
        CottageYear idle = new CottageYear();
        idle.openDay();
        due("19 no teams and no jobs", idle.best(0), 0);
        due("20 no teams and no jobs", idle.plan(), true);
    }

    private static void bestMoved() {
        CottageYear year = openedDay(20, 20);
        year.plan();
        due("20 all to the first", year.row(0, 2), 2);
        year.state(2, 330);
        // 0 and 1 take 145 and the way; 2 begun at 600 is ready at 930 if it goes first
        due("19 none late if one goes to the other", year.best(0), 0);
        due("19 only one is moved", year.best(1), 1);
        due("19 minutes", year.best(2), 30);
        year.plan();
        due("19 not moved against the plan at hand", year.best(1), 0);
        due("20 row of the first", year.row(0, 0), 0);
        due("20 row of the first", year.row(0, 1), 1);
        due("20 row of the second", year.row(1, 0), 2);
        year.state(2, 50);
        year.way(0, 3, 90);
        due("19 rather longer ways than moved", year.best(2), 110);
        due("19 nothing is moved", year.best(1), 0);
    }

    private static void bestBusyTeams() {
        CottageYear year = openedDay(20, 20);
        year.late(0, 610);
        year.plan();
        year.tick(30);
        due("19 the first went", ask(year, 0, 0), 2);
        year.state(0, 349);
        // the first is READY at 610 + 349 = 959: what is left in its row goes to the other one
        due("19 late", year.best(0), 0);
        due("19 moved", year.best(1), 2);
        year.state(0, 89);
        due("19 the first goes on at 699", year.best(1), 0);
        due("19 minutes", year.best(2), 20);
        year.late(1, 905);
        year.late(2, 700);
        // 1 must begin by 914, 2 by 852: 0 at 699, 2 at 709 .. 817, 1 at 905 .. 951
        due("19 the other order", year.best(0), 0);
        year.plan();
        due("20 the other order", year.row(0, 0), 2);
    }

    private static void bestTies() {
        CottageYear year = openedDay(20, 20, 20);
        year.plan();
        due("19 all alike: the first team has them all", year.row(0, 0), 0);
        due("19 lower ones first", year.row(0, 1), 1);
        due("19 lower ones first", year.row(0, 2), 2);
        due("19 nothing for the others", year.row(1, 0), NONE);
        CottageYear split = openedDay(20, 20, 20);
        split.state(0, 300);
        split.state(1, 300);
        split.plan();
        due("19 a cottage rather than the end", split.row(0, 0), 0);
        due("19 then the second cottage to the second team", split.row(1, 0), 1);
        due("19 the third to the third team", split.row(2, 0), 2);
        due("19 as nobody has time for two", split.row(0, 1), NONE);
    }

    private static void bestOnTheWay() {
        CottageYear year = openedDay(20, 20);
        due("19 three ways", year.best(2), 30);
        year.way(0, 1, 90);
        year.way(0, 2, 40);
        year.way(0, 3, 40);
        year.way(1, 2, 1);
        year.way(2, 3, 1);
        year.way(3, 1, 90);
        year.plan();
        due("20 the shortest way round", year.row(0, 0), 2);
        year.tick(1);
        due("19 one of them was gone to in this minute", year.best(2), 2);
        due("23 on its way", ask(year, 0, 0), 1);
        for (int c = 0; c < 3; c++) {
            year.late(c, 1);
            year.state(c, 400);
        }
        // there at 41, READY at 441, then 842 and 1243; or the last one to the other TEAM, which is 90 away
        due("19 none late", year.best(0), 0);
        due("19 one moved", year.best(1), 1);
        due("19 minutes", year.best(2), 91);
        year.state(2, 118);
        // on at 41 + 118: 560, 961
        due("19 a minute late, as it will be there at 41", year.best(1), 1);
        year.state(2, 117);
        due("19 just in time, as it will be there at 41", year.best(1), 0);
    }

    private static void exactLoad() {
        CottageYear year = new CottageYear();
        year.cottage(12, true, 100, 10);
        year.cottage(12, true, 100, 10);
        year.team(12);
        year.team(13);
        for (int c = 0; c < 2; c++) {
            year.book(c, 0, 1, false, 0);
            year.book(c, 1, 6 + c, false, 0);
        }
        year.way(1, 2, 3);
        Check.pass(year, 1);
        year.openDay();
        year.plan();
        due("20 13 sets are just enough", year.row(1, 1), 1);
        due("19 so it goes straight on", year.best(2), 13);
        year.tick(500);
        year.tick(200);
        due("23 none is left", ask(year, 1, 3), 0);
        due("24 straight on", year.job(1, 1, 8), 3);
    }

    private static void plan() {
        CottageYear year = openedDay(20);
        due("20 plan", year.plan(), true);
        due("20 its row", year.row(0, 0), 0);
        year.tick(1);
        due("20 again", year.plan(), true);
        due("20 who was gone to is in no row", year.row(0, 0), 1);
        due("20 nor left out", year.row(0, 1), 2);
        due("20 nor more", year.row(0, 2), NONE);
        year.closeDay();
        due("20 no day", year.plan(), false);
        due("20 no team", openedDay().plan(), false);
    }

    private static void row() {
        CottageYear year = openedDay(20, 20);
        due("21 none at first", year.row(0, 0), NONE);
        year.plan();
        due("21 row", year.row(0, 1), 1);
        due("21 without", year.row(0, 3), NONE);
        due("21 without", year.row(0, -1), NONE);
        due("21 an empty one", year.row(1, 0), NONE);
        due("21 no team", year.row(2, 0), NONE);
        due("21 no team", year.row(-1, 0), NONE);
        year.closeDay();
        due("21 no day", year.row(0, 0), NONE);
        year.openDay();
        due("21 no rows on a new day", year.row(0, 0), NONE);
    }

    private static void tick() {
        CottageYear year = openedDay(20);
        due("22 nothing", year.tick(0), 0);
        due("22 below", year.tick(-1), NONE);
        due("22 above", year.tick(501), NONE);
        due("22 many", year.tick(500), 500);
        due("22 many", year.tick(500), 1000);
        due("22 beyond the day", year.tick(441), NONE);
        due("22 its end", year.tick(440), 1440);
        due("22 not a minute more", year.tick(1), NONE);
        due("22 nothing", year.tick(0), 1440);
        year.closeDay();
        due("22 no day", year.tick(0), NONE);
    }

    private static void wayOfNothing() {
        CottageYear year = openedDay(20);
        for (int place = 0; place < 3; place++) {
            for (int other = place + 1; other <= 3; other++) {
                year.way(place, other, 0);
            }
        }
        for (int c = 0; c < 3; c++) {
            year.late(c, 0);
        }
        year.plan();
        due("22 nothing before the first minute", ask(year, 0, 0), 0);
        year.tick(1);
        due("22 there and begun", year.job(1, 0, 4), 1);
        year.tick(89);
        due("22 ready", year.job(1, 0, 5), 90);
        due("22 and on at once", year.job(1, 1, 4), 90);
        due("22 cleans", ask(year, 0, 0), 3);
    }

    private static void waiting() {
        CottageYear year = openedDay(20);
        year.plan();
        year.tick(11);
        due("22 waits", ask(year, 0, 0), 2);
        year.tick(89);
        year.late(0, 100);
        due("22 told now", ask(year, 0, 0), 2);
        due("22 as told now", year.best(2), 20);
        year.tick(1);
        due("22 begins in the next minute", year.job(1, 0, 4), 101);
    }

    private static void about() {
        CottageYear year = openedDay(20, 15);
        int[] idle = {0, NONE, NONE, 20, 0, 0};
        for (int what = 0; what < idle.length; what++) {
            due("23 idle " + what, ask(year, 0, what), idle[what]);
        }
        year.plan();
        year.tick(1);
        int[] goes = {1, 0, 11, 17, 1};
        for (int what = 0; what < goes.length; what++) {
            due("23 goes " + what, ask(year, 0, what), goes[what]);
        }
        year.tick(10);
        int[] waits = {2, 0, NONE, 17, 1, 10};
        for (int what = 0; what < waits.length; what++) {
            due("23 waits " + what, ask(year, 0, what), waits[what]);
        }
        year.tick(500);
        year.tick(89);
        int[] cleans = {3, 0, 689, 17, 1, 10};
        for (int what = 0; what < cleans.length; what++) {
            due("23 cleans " + what, ask(year, 0, what), cleans[what]);
        }
        due("23 the other team", ask(year, 1, 3), 15);
        due("23 no team", ask(year, 2, 0), THROWN);
        due("23 no team", ask(year, -1, 0), THROWN);
        due("23 what", ask(year, 0, 6), THROWN);
        due("23 what", ask(year, 0, -1), THROWN);
        year.closeDay();
        due("23 no day", ask(year, 0, 0), THROWN);
        year.openDay();
        due("23 at the base again", ask(year, 0, 4), 0);
        due("23 its load", ask(year, 0, 3), 20);
        due("23 no minutes", ask(year, 0, 5), 0);
    }

    private static void byBase() {
        CottageYear year = Check.threeCottages();
        year.cottage(12, true, 100, 10);
        year.team(12);
        year.book(2, 0, 1, false, 0);
        year.book(3, 0, 1, false, 0);
        year.book(2, 1, 6, false, 0);
        year.book(3, 1, 12, false, 0);
        year.way(3, 0, 20);
        year.way(0, 4, 7);
        year.way(3, 4, 1);
        Check.pass(year, 1);
        year.openDay();
        due("19 12, then by the base 6", year.best(2), 7 + 7 + 5 + 20);
        year.late(3, 900);
        due("19 rather 6 first, so that none is late", year.best(2), 20 + 20 + 5 + 7);
        year.plan();
        year.tick(500);
        due("23 6 are left", ask(year, 0, 3), 6);
        year.tick(200);
        due("23 it loads", ask(year, 0, 3), 0);
        due("23 where it goes", ask(year, 0, 4), 4);
        due("23 ready at 693, then 32", ask(year, 0, 2), 693 + 32);
        due("24 the minutes to it", year.job(1, 3, 8), 32);
        due("24 the minutes to the other", year.job(1, 2, 8), 20);
        year.tick(300);
        due("23 minutes", ask(year, 0, 5), 52);
    }

    private static void job() {
        CottageYear year = openedDay(20);
        int[] first = {600, 960, 89, 3, NONE, NONE, NONE, NONE, 0, 0};
        for (int what = 0; what < first.length; what++) {
            due("24 job(1, 0, " + what + ")", year.job(1, 0, what), first[what]);
        }
        year.plan();
        due("24 nobody goes yet", year.job(1, 0, 7), NONE);
        year.tick(1);
        due("24 who goes", year.job(1, 0, 7), 0);
        due("24 its minutes", year.job(1, 0, 8), 10);
        year.late(0, 900);
        year.tick(500);
        year.tick(399);
        due("24 begun", year.job(1, 0, 4), 900);
        due("24 not ready yet", year.job(1, 0, 5), NONE);
        year.tick(89);
        due("24 ready", year.job(1, 0, 5), 989);
        due("24 late", year.job(1, 0, 6), 29);
        due("44 late of all", year.count(13), 29);
        due("24 what", year.job(1, 0, 10), NONE);
        due("24 what", year.job(1, 0, -1), NONE);
        due("24 no cottage", year.job(1, 3, 0), NONE);
        due("24 no cottage", year.job(1, -1, 0), NONE);
        due("24 no jobs in week 0", year.job(0, 0, 0), NONE);
        due("24 not opened", year.job(2, 0, 0), NONE);
        due("24 no week", year.job(-1, 0, 0), NONE);
        due("24 no week", year.job(52, 0, 0), NONE);
        Check.tape(year, "c*2");
        year.terms(0);
        year.closeDay();
        due("24 of a closed day", year.job(1, 0, 5), 989);
        due("24 booked", year.job(1, 0, 9), 178);
        due("24 not for one left out", year.job(1, 2, 9), 0);
        year.openDay();
        due("24 nobody comes", year.job(2, 0, 1), 1440);
        due("24 no linen", year.job(2, 0, 3), 0);
    }
}
