import java.util.function.Supplier;

/** Promises 12 to 24 at their edges, sentence by sentence. */
public final class EdgeDayTest {
    private static final int NONE = CottageYear.NONE;
    private static final int LEAST = Integer.MIN_VALUE;
    private static final int MOST = Integer.MAX_VALUE;
    private static final Edge EDGE = new Edge("edges of 12 to 24");

    public static void main(String[] args) {
        teamBounds();
        teamMany();
        wayBounds();
        wayRefused();
        restBounds();
        openDayJobs();
        openDayOnce();
        openDayAnew();
        jobsAsOpened();
        closeDayEdges();
        endOfYear();
        lateBounds();
        lateRefused();
        lateTillBegun();
        stateBounds();
        stateRefused();
        bestRefused();
        bestNothing();
        bestLateByAMinute();
        bestLinenByASet();
        bestMovedEdges();
        bestAllAtOnce();
        bestOrder();
        bestFromWhereAndWhen();
        bestAsToldNow();
        planEdges();
        rowEdges();
        rowsOfSeven();
        tickBounds();
        minuteOrder();
        aboutThrows();
        aboutValues();
        jobRefused();
        jobValues();
        EDGE.end();
    }

    private static void due(String what, long got, long want) {
        EDGE.due(what, got, want);
    }

    private static void due(String what, boolean got, boolean want) {
        EDGE.due(what, got, want);
    }

    /** So many COTTAGES alike with one GUEST in WEEKS 0 and 1, TEAMS with these LOADS, the DAY of WEEK 1 open. */
    private static CottageYear jobs(int many, int... loads) {
        CottageYear year = Years.alike(many);
        for (int load : loads) {
            year.team(load);
        }
        for (int c = 0; c < many; c++) {
            year.book(c, 0, 1, false, 0);
            year.book(c, 1, 1, false, 0);
        }
        Check.pass(year, 1);
        year.openDay();
        return year;
    }

    private static void teamBounds() {
        EDGE.sentence("12: a LOAD (12 .. 30 sets). NONE: LOAD");
        for (int load : new int[] {12, 30}) {
            CottageYear year = new CottageYear();
            due("load " + load, year.team(load), 0);
            year.openDay();
            due("left", Years.about(year, 0, 3), load);
        }
        for (int load : new int[] {11, 31, 0, -1, LEAST, MOST}) {
            EDGE.none("load " + load, Years::rich, year -> year.team(load));
        }
        EDGE.sentence("12: NONE: a DAY is open");
        EDGE.none("in its midst", Years::richDay, year -> year.team(20));
        CottageYear year = Years.richDay();
        year.closeDay();
        due("not behind it", year.team(20), 2);
        due("not when the year is over", Years.richOver().team(20), 2);
    }

    private static CottageYear teams(int many) {
        CottageYear year = new CottageYear();
        for (int i = 0; i < many; i++) {
            year.team(12 + i);
        }
        return year;
    }

    private static void teamMany() {
        EDGE.sentence("12: TEAMS (3 at most). NONE: there are three");
        for (int i = 0; i < 3; i++) {
            due("there are " + i, teams(i).count(6), i);
            due("its number", teams(i).team(30), i);
        }
        EDGE.none("the fourth", () -> teams(3), year -> year.team(20));
        CottageYear year = teams(3);
        year.openDay();
        due("the last one of three", Years.about(year, 2, 3), 14);
    }

    /** Two JOBS, one TEAM; all WAYS are 50 but for those asked. */
    private static CottageYear farApart() {
        CottageYear year = jobs(2, 20);
        year.way(0, 1, 50);
        year.way(0, 2, 50);
        year.way(1, 2, 50);
        return year;
    }

    private static void wayBounds() {
        EDGE.sentence("13: WAY between any two PLACES (0 .. 90 minutes)");
        for (int minutes : new int[] {0, 90}) {
            CottageYear year = farApart();
            due("way " + minutes, year.way(1, 2, minutes), true);
            due("it is used", year.best(2), 50 + minutes);
        }
        for (int minutes : new int[] {-1, 91, LEAST, MOST}) {
            EDGE.isFalse("minutes " + minutes, EdgeDayTest::farApart, year -> year.way(1, 2, minutes));
            EDGE.isFalse("minutes " + minutes, Years::richDay, year -> year.way(1, 2, minutes));
        }
        EDGE.sentence("13: 10 at first");
        due("from the base and on", jobs(2, 20).best(2), 20);
        due("seven", jobs(7, 20).best(2), 70);
        EDGE.sentence("13: either way alike");
        CottageYear there = farApart();
        there.way(1, 0, 1);
        there.way(2, 1, 2);
        due("told the other way", there.best(2), 3);
        CottageYear anew = farApart();
        anew.way(0, 1, 1);
        anew.way(1, 0, 7);
        due("told anew the other way", anew.best(2), 7 + 50);
        EDGE.sentence("13: at any time");
        due("no cottages yet", new CottageYear().way(0, 1, 5), true);
        due("no day open", Years.rich().way(0, 1, 5), true);
        due("the year is over", Years.richOver().way(0, 1, 5), true);
    }

    private static void wayRefused() {
        EDGE.sentence("13: False: no such PLACES (0 .. 7)");
        for (int place : new int[] {-1, 8, 9, LEAST, MOST}) {
            EDGE.isFalse("one " + place, EdgeDayTest::farApart, year -> year.way(place, 1, 20));
            EDGE.isFalse("other " + place, EdgeDayTest::farApart, year -> year.way(1, place, 20));
        }
        EDGE.isFalse("neither", EdgeDayTest::farApart, year -> year.way(-1, 8, 20));
        due("0 and 7", farApart().way(0, 7, 20), true);
        due("7 and 0", farApart().way(7, 0, 20), true);
        due("places of cottages that are not yet", farApart().way(6, 7, 20), true);
        CottageYear seven = jobs(7, 20);
        for (int place = 0; place < 7; place++) {
            seven.way(7, place, 1);
        }
        due("the last place is the last cottage: 1 from the base to it, 1 on, five times 10", seven.best(2), 52);
        EDGE.sentence("13: False: alike");
        for (int place = 0; place < 8; place++) {
            int same = place;
            EDGE.isFalse("place " + place, EdgeDayTest::farApart, year -> year.way(same, same, 20));
        }
    }

    /** One TEAM with twelve sets; two JOBS of twelve sets each: it must load again. */
    private static CottageYear loading() {
        CottageYear year = Years.alike(2);
        year.team(12);
        for (int c = 0; c < 2; c++) {
            year.book(c, 0, 1, false, 0);
            year.book(c, 1, 12, false, 0);
        }
        Check.pass(year, 1);
        year.openDay();
        return year;
    }

    private static void restBounds() {
        EDGE.sentence("14: LOADING at the base takes REST (0 .. 60; 5 at first)");
        due("at first", loading().best(2), 30 + 5);
        for (int minutes : new int[] {0, 60}) {
            CottageYear year = loading();
            due("rest " + minutes, year.rest(minutes), true);
            due("it is used", year.best(2), 30 + minutes);
        }
        EDGE.sentence("14: False: out of bounds");
        for (int minutes : new int[] {-1, 61, LEAST, MOST}) {
            EDGE.isFalse("rest " + minutes, EdgeDayTest::loading, year -> year.rest(minutes));
        }
        due("no day open", new CottageYear().rest(1), true);
        due("the year is over", Years.richOver().rest(1), true);
    }

    private static void openDayJobs() {
        EDGE.sentence("15: how many JOBS: each COTTAGE that had a STAY in WEEK W - 1");
        due("none at all", new CottageYear().openDay(), 0);
        for (int many = 0; many <= 7; many++) {
            CottageYear year = Years.alike(7);
            for (int c = 0; c < many; c++) {
                year.book(6 - c, 0, 1, false, 0);
                year.book(c, 1, 1, false, 0);
            }
            due("none in week 0", year.openDay(), 0);
            year.closeDay();
            due(many + " of seven", year.openDay(), many);
            due("the last cottage", year.job(1, 6, 0), many == 0 ? NONE : 600);
            due("the first cottage", year.job(1, 0, 0), many == 7 ? 600 : NONE);
        }
        CottageYear year = Years.alike(3);
        year.book(0, 0, 1, false, 0);
        year.book(1, 0, 1, false, 0);
        year.book(2, 1, 1, false, 0);
        year.shut(1, 0, true);
        Check.pass(year, 1);
        due("not the shut one, not the one that comes now", year.openDay(), 1);
        year.closeDay();
        due("only of the week ahead", year.openDay(), 1);
        year.closeDay();
        due("not of the week ahead of that", year.openDay(), 0);
    }

    private static void openDayOnce() {
        EDGE.sentence("15: NONE: it is open");
        EDGE.none("at its beginning", () -> jobs(2, 20), CottageYear::openDay);
        EDGE.none("in its midst", Years::richDay, CottageYear::openDay);
        EDGE.none("at its end", () -> Years.till(Years.richDay(), 1440), CottageYear::openDay);
        CottageYear year = Years.richDay();
        year.closeDay();
        due("not behind it", year.openDay(), 2);
        EDGE.sentence("15: NONE: the year is over");
        EDGE.none("W is 52", Years::richOver, CottageYear::openDay);
        due("not in week 51", Years.at(Years.rich(), 51).openDay(), 0);
    }

    private static void openDayAnew() {
        EDGE.sentence("15: As a DAY is opened all TEAMS are at the base about nothing, their LOAD LEFT, without rows; NOW 0");
        CottageYear year = Years.alike(3);
        year.team(20);
        year.team(15);
        for (int week = 0; week < 3; week++) {
            for (int c = 0; c < 3; c++) {
                year.book(c, week, 2, false, 0);
            }
        }
        Check.pass(year, 1);
        year.openDay();
        year.plan();
        Years.till(year, 605);
        due("it cleans", Years.about(year, 0, 0), 3);
        due("it has a row", year.row(0, 0), 1);
        due("18 left", Years.about(year, 0, 3), 18);
        year.closeDay();
        year.openDay();
        due("now", year.count(2), 0);
        int[] first = {0, NONE, NONE, 20, 0, 0};
        int[] second = {0, NONE, NONE, 15, 0, 0};
        for (int what = 0; what < 6; what++) {
            due("about(0, " + what + ")", Years.about(year, 0, what), first[what]);
            due("about(1, " + what + ")", Years.about(year, 1, what), second[what]);
        }
        due("no row", year.row(0, 0), NONE);
        due("all three to go to", year.best(2), 30);
        due("nothing is moved, as none was in a row", year.best(1), 0);
        Years.till(year, 900);
        due("nobody goes without a row", Years.about(year, 0, 0), 0);
    }

    private static void jobsAsOpened() {
        EDGE.sentence("24: OUT 600, DUE 960, if a STAY comes to it in W, else 1,440; LINEN: GUESTS who come (0 without)");
        CottageYear year = Years.alike(4);
        for (int c = 0; c < 4; c++) {
            year.book(c, 0, 12, c == 1, 0);
        }
        year.book(0, 1, 1, true, 0);
        year.book(1, 1, 12, false, 0);
        year.book(2, 1, 5, false, 0);
        year.shut(2, 1, true);
        Check.pass(year, 1);
        year.openDay();
        int[] due = {960, 960, 1440, 1440};
        int[] linen = {1, 12, 0, 0};
        int[] clean = {46, 66, 46, 46};
        for (int c = 0; c < 4; c++) {
            due("out " + c, year.job(1, c, 0), 600);
            due("due " + c, year.job(1, c, 1), due[c]);
            due("clean " + c, year.job(1, c, 2), clean[c]);
            due("linen " + c, year.job(1, c, 3), linen[c]);
        }
    }

    private static void closeDayEdges() {
        EDGE.sentence("16: NONE: none is open");
        EDGE.none("a new year", CottageYear::new, CottageYear::closeDay);
        EDGE.none("between two days", Years::rich, CottageYear::closeDay);
        EDGE.none("the year is over", Years::richOver, CottageYear::closeDay);
        EDGE.sentence("16: The DAY is closed: how many LINES came");
        due("none", opened(new CottageYear()).closeDay(), 0);
        due("changed ones of the day ahead, and of this day", Years.richEvening().closeDay(), 2 + 3);
        due("only those of the day ahead", opened(Years.rich()).closeDay(), 2);
        CottageYear year = Years.richEvening();
        year.closeDay();
        due("W is one more", year.count(0), 3);
        due("it is not open", year.count(1), 0);
        due("no now", year.count(2), NONE);
        year.openDay();
        due("then nothing has changed", year.closeDay(), 0);
        EDGE.sentence("16: JOBS not READY are LEFT OUT");
        for (int minute = 622; minute < 624; minute++) {
            CottageYear one = jobs(1, 12);
            one.state(0, 13);
            one.late(0, 610);
            one.plan();
            Years.till(one, minute);
            one.closeDay();
            due("READY at 623, closed at " + minute, one.count(12), 623 - minute);
            due("ready", one.job(1, 0, 5), minute == 623 ? 623 : NONE);
        }
        CottageYear none = jobs(7);
        none.closeDay();
        due("all seven", none.count(12), 7);
    }

    private static CottageYear opened(CottageYear year) {
        year.openDay();
        return year;
    }

    private static void endOfYear() {
        EDGE.sentence("16: with 52 the year is over: no DAY can be opened");
        CottageYear year = Years.alike(1);
        year.book(0, 50, 1, false, 0);
        year.book(0, 51, 1, false, 0);
        year.team(12);
        Years.at(year, 51);
        due("W", year.count(0), 51);
        due("the last day", year.openDay(), 1);
        due("its job is due as one comes", year.job(51, 0, 1), 960);
        year.plan();
        Years.till(year, 1000);
        due("its job is done", year.job(51, 0, 5), 613);
        due("it can be closed", year.closeDay(), 0);
        due("W", year.count(0), 52);
        due("no more", year.openDay(), NONE);
        due("its job is still known", year.job(51, 0, 5), 613);
        due("no job of a week 52", year.job(52, 0, 0), NONE);
        due("who stayed last can complain", year.complain(1, 0), 0);
    }

    private static void lateBounds() {
        EDGE.sentence("17: OUT of a JOB anew (NOW .. 1,440)");
        for (int now : new int[] {0, 1, 500, 1440}) {
            CottageYear year = Years.till(jobs(1, 12), now);
            due("now, at " + now, year.late(0, now), true);
            due("out", year.job(1, 0, 0), now);
            due("the last minute, at " + now, year.late(0, 1440), true);
            due("out", year.job(1, 0, 0), 1440);
            EDGE.isFalse("ahead of " + now, () -> Years.till(jobs(1, 12), now), of -> of.late(0, now - 1));
        }
        for (int out : new int[] {1441, -1, LEAST, MOST}) {
            EDGE.isFalse("out " + out, () -> jobs(1, 12), year -> year.late(0, out));
            EDGE.isFalse("out " + out, Years::richDay, year -> year.late(2, out));
        }
        EDGE.isFalse("in the midst of the day, a minute ago", Years::richDay, year -> year.late(2, 649));
        due("in the midst of the day, now", Years.richDay().late(2, 650), true);
        due("earlier than 600, too", jobs(1, 12).late(0, 5), true);
    }

    private static void lateRefused() {
        EDGE.sentence("17: False: no DAY open");
        EDGE.isFalse("between two days", Years::rich, year -> year.late(0, 700));
        EDGE.isFalse("behind the day", () -> {
            CottageYear year = jobs(1, 12);
            year.closeDay();
            return year;
        }, year -> year.late(0, 700));
        EDGE.isFalse("the year is over", Years::richOver, year -> year.late(0, 700));
        EDGE.sentence("17: False: no such JOB");
        for (int cottage : new int[] {-1, 2, 6, 7, LEAST, MOST}) {
            EDGE.isFalse("cottage " + cottage, () -> jobs(2, 12), year -> year.late(cottage, 700));
        }
        EDGE.isFalse("a cottage without a job", EdgeDayTest::withoutJob, year -> year.late(1, 700));
        EDGE.isFalse("a job of the week ahead", EdgeDayTest::jobAhead, year -> year.late(0, 700));
        due("the last of seven", jobs(7, 12).late(6, 700), true);
        EDGE.isFalse("an eighth", () -> jobs(7, 12), year -> year.late(7, 700));
    }

    /** COTTAGE 0 has a JOB; COTTAGE 1, to which one comes, has none. */
    private static CottageYear withoutJob() {
        CottageYear year = Years.alike(2);
        year.team(12);
        year.book(0, 0, 1, false, 0);
        year.book(1, 1, 1, false, 0);
        Check.pass(year, 1);
        return opened(year);
    }

    /** On the open DAY COTTAGE 1 has a JOB; COTTAGE 0 had one a WEEK ago, that nobody went to. */
    private static CottageYear jobAhead() {
        CottageYear year = withoutJob();
        year.closeDay();
        return opened(year);
    }

    private static void lateTillBegun() {
        EDGE.sentence("17: till it is begun (also as a TEAM waits). False: it was begun");
        CottageYear year = jobs(2, 12);
        year.plan();
        due("before anyone goes", year.late(0, 20), true);
        year.tick(1);
        due("a team goes to it", Years.about(year, 0, 0), 1);
        due("as it goes", year.late(0, 30), true);
        year.tick(10);
        due("a team waits", Years.about(year, 0, 0), 2);
        due("as it waits", year.late(0, 40), true);
        Years.till(year, 39);
        due("a minute ahead of it", year.late(0, 41), true);
        Years.till(year, 41);
        due("it cleans", Years.about(year, 0, 0), 3);
        due("begun as told", year.job(1, 0, 4), 41);
        Supplier<CottageYear> begun = () -> {
            CottageYear of = jobs(2, 12);
            of.late(0, 41);
            of.plan();
            return Years.till(of, 41);
        };
        EDGE.isFalse("it was begun", begun, of -> of.late(0, 700));
        EDGE.isFalse("it is ready", () -> Years.till(begun.get(), 100), of -> of.late(0, 700));
        due("the other one was not", begun.get().late(1, 700), true);
    }

    private static void stateBounds() {
        EDGE.sentence("18: CLEAN of a JOB anew (1 .. 400)");
        for (int minutes : new int[] {1, 400}) {
            CottageYear year = jobs(1, 12);
            due("clean " + minutes, year.state(0, minutes), true);
            due("told", year.job(1, 0, 2), minutes);
            year.plan();
            Years.till(year, 599 + minutes);
            due("not yet ready", year.job(1, 0, 5), NONE);
            year.tick(1);
            due("ready", year.job(1, 0, 5), 600 + minutes);
        }
        for (int minutes : new int[] {0, 401, -1, LEAST, MOST}) {
            EDGE.isFalse("clean " + minutes, () -> jobs(1, 12), year -> year.state(0, minutes));
            EDGE.isFalse("clean " + minutes, Years::richDay, year -> year.state(2, minutes));
        }
    }

    private static void stateRefused() {
        EDGE.sentence("18: False: no DAY open");
        EDGE.isFalse("between two days", Years::rich, year -> year.state(0, 70));
        EDGE.isFalse("the year is over", Years::richOver, year -> year.state(0, 70));
        EDGE.sentence("18: False: no such JOB");
        for (int cottage : new int[] {-1, 2, 6, 7, LEAST, MOST}) {
            EDGE.isFalse("cottage " + cottage, () -> jobs(2, 12), year -> year.state(cottage, 70));
        }
        EDGE.isFalse("a cottage without a job", EdgeDayTest::withoutJob, year -> year.state(1, 70));
        EDGE.isFalse("a job of the week ahead", EdgeDayTest::jobAhead, year -> year.state(0, 70));
        due("the last of seven", jobs(7, 12).state(6, 70), true);
        EDGE.isFalse("an eighth", () -> jobs(7, 12), year -> year.state(7, 70));
        EDGE.sentence("18: False: it was begun");
        Supplier<CottageYear> planned = () -> {
            CottageYear year = jobs(2, 12);
            year.plan();
            return year;
        };
        due("on its way", Years.till(planned.get(), 5).state(0, 70), true);
        due("it waits", Years.till(planned.get(), 599).state(0, 70), true);
        EDGE.isFalse("it was begun", () -> Years.till(planned.get(), 600), year -> year.state(0, 70));
        EDGE.isFalse("it is ready", () -> Years.till(planned.get(), 700), year -> year.state(0, 70));
        CottageYear waits = Years.till(planned.get(), 599);
        waits.state(0, 70);
        Years.till(waits, 700);
        due("cleaned as told while it waited", waits.job(1, 0, 5), 670);
    }

    private static void bestRefused() {
        EDGE.sentence("19: NONE: no DAY open");
        EDGE.none("a new year", CottageYear::new, year -> year.best(0));
        EDGE.none("between two days", Years::rich, year -> year.best(0));
        EDGE.none("the year is over", Years::richOver, year -> year.best(0));
        EDGE.sentence("19: NONE: what");
        for (int what : new int[] {-1, 3, LEAST, MOST}) {
            EDGE.none("what " + what, Years::richDay, year -> year.best(what));
        }
        EDGE.refused("asking changes nothing", Years::richDay, year -> year.best(2), Years.richDay().best(2));
        EDGE.sentence("19: There is none without TEAMS, if there is a JOB to go to");
        for (int what = 0; what < 3; what++) {
            int asked = what;
            EDGE.none("one job, no team: " + what, () -> jobs(1), year -> year.best(asked));
            due("no job, no team: " + what, opened(Years.alike(1)).best(what), 0);
        }
        EDGE.none("seven jobs, no team", () -> jobs(7), year -> year.best(0));
        due("one team", jobs(1, 12).best(2), 10);
    }

    private static void bestNothing() {
        EDGE.sentence("19: each JOB that nobody has gone to yet is in just one row");
        CottageYear year = jobs(1, 12);
        year.plan();
        year.tick(1);
        for (int what = 0; what < 3; what++) {
            due("one that goes is in none: " + what, year.best(what), 0);
        }
        Years.till(year, 1440);
        due("at the end", year.best(0), 0);
        CottageYear late = Years.till(jobs(1, 12), 1440);
        due("also at the end of the day: there at 1,450, ready 13 later", late.best(0), 1463 - 960);
    }

    private static void bestLateByAMinute() {
        EDGE.sentence("19: LATE: how many minutes READY is behind DUE (0, if none)");
        for (int out = 946; out < 950; out++) {
            CottageYear year = jobs(1, 12);
            year.late(0, out);
            due("ready at " + (out + 13), year.best(0), Math.max(0, out + 13 - 960));
            year.plan();
            Years.till(year, 1000);
            due("late", year.job(1, 0, 6), Math.max(0, out + 13 - 960));
        }
        CottageYear year = Years.alike(1);
        year.team(12);
        year.book(0, 0, 1, false, 0);
        Check.pass(year, 1);
        opened(year);
        year.late(0, 1427);
        due("just 1,440, as nobody comes", year.best(0), 0);
        year.late(0, 1428);
        due("1,441", year.best(0), 1);
        year.late(0, 1440);
        year.state(0, 400);
        due("the latest", year.best(0), 400);
    }

    /** A TEAM with twelve sets; COTTAGE 0 needs so many sets, COTTAGE 1 so many; the WAY between them is 30. */
    private static CottageYear twoLoads(int first, int second) {
        CottageYear year = Years.alike(2);
        year.team(12);
        for (int c = 0; c < 2; c++) {
            year.book(c, 0, 1, false, 0);
        }
        if (first > 0) {
            year.book(0, 1, first, false, 0);
        }
        if (second > 0) {
            year.book(1, 1, second, false, 0);
        }
        year.way(1, 2, 30);
        Check.pass(year, 1);
        return opened(year);
    }

    private static void bestLinenByASet() {
        EDGE.sentence("19: if these are fewer than its LINEN, by the base; else by WAY");
        due("just enough", twoLoads(6, 6).best(2), 40);
        due("one too few", twoLoads(6, 7).best(2), 35);
        due("all for the first, none for the second", twoLoads(12, 0).best(2), 40);
        due("all for the first, one for the second", twoLoads(12, 1).best(2), 35);
        int[] first = {6, 6, 12};
        int[] second = {6, 7, 0};
        int[] left = {0, 5, 0};
        int[] minutes = {30, 25, 30};
        for (int i = 0; i < first.length; i++) {
            CottageYear year = twoLoads(first[i], second[i]);
            year.late(1, 700);
            year.plan();
            Years.till(year, 900);
            due("who goes second", year.job(1, 1, 4), 700);
            due("minutes to it", year.job(1, 1, 8), minutes[i]);
            due("sets left", Years.about(year, 0, 3), left[i]);
        }
    }

    private static void bestMovedEdges() {
        EDGE.sentence("19: the fewest MOVED; those in none there do not count");
        CottageYear year = jobs(2, 12, 12);
        year.plan();
        due("both to the first", year.row(0, 1), 1);
        due("none is moved", year.best(1), 0);
        year.state(0, 350);
        due("the other team takes one", year.best(1), 1);
        year.plan();
        due("against the plan at hand", year.best(1), 0);
        due("the second cottage goes to the second", year.row(1, 0) + 10 * year.row(0, 0), 1);
        year.state(0, 13);
        due("rather a longer way than moved", year.best(2), 20);
        year.way(1, 2, 0);
        due("though another would be shorter", year.best(2), 20);
        due("none is moved", year.best(1), 0);
        CottageYear none = jobs(2, 12, 12);
        none.state(0, 350);
        due("those in no row do not count", none.best(1), 0);
    }

    private static void dueBest(String when, CottageYear year, int... want) {
        for (int what = 0; what < 3; what++) {
            due(when + ": best(" + what + ")", year.best(what), want[what]);
        }
    }

    /** The TEAM 0 of two goes to COTTAGE 0 and will clean there till 1,000; all others are in its row. */
    private static CottageYear heldUp(int many) {
        CottageYear year = jobs(many, 30, 30);
        year.plan();
        year.tick(1);
        year.state(0, 400);
        return year;
    }

    private static void bestAllAtOnce() {
        EDGE.sentence("19: What BEST costs: 0 LATE, 1 MOVED, 2 minutes");
        for (int late = 0; late < 4; late++) {
            CottageYear year = jobs(2, 12, 12);
            year.plan();
            year.state(0, 360 + late);
            dueBest(late + " late, the other cottage is moved", year, late, 1, 20);
        }
        for (int many = 1; many <= 7; many++) {
            dueBest("all but one of " + many + " are moved", heldUp(many), 0, many - 1, 10 * (many - 1));
        }
        CottageYear most = Years.alike(7);
        most.team(12);
        most.rest(60);
        for (int c = 0; c < 7; c++) {
            most.book(c, 0, 1, false, 0);
            most.book(c, 1, 12, false, 0);
            for (int place = 0; place <= c; place++) {
                most.way(place, 1 + c, 90);
            }
        }
        Check.pass(most, 1);
        opened(most);
        Years.till(most, 1440);
        for (int c = 0; c < 7; c++) {
            most.late(c, 1440);
            most.state(c, 400);
        }
        int late = 0;
        for (int i = 0; i < 7; i++) {
            late += 1440 + 90 + 400 + i * (90 + 60 + 90 + 400) - 960;
        }
        dueBest("the most that seven can cost", most, late, 0, 90 + 6 * 240);
    }

    private static void bestOrder() {
        EDGE.sentence("19: TEAM after TEAM, a COTTAGE rather than its end, then the lower COTTAGE");
        CottageYear year = jobs(1, 12, 12, 12);
        year.plan();
        due("the first team goes rather than not", year.row(0, 0), 0);
        CottageYear three = jobs(3, 12, 12, 12);
        for (int c = 0; c < 3; c++) {
            three.state(c, 350);
        }
        three.plan();
        for (int team = 0; team < 3; team++) {
            due("lower ones to lower teams", three.row(team, 0), team);
            due("one each", three.row(team, 1), NONE);
        }
        CottageYear four = jobs(4, 12, 12);
        for (int c = 0; c < 4; c++) {
            four.state(c, 170);
        }
        four.plan();
        int[] rows = {0, 1, 2, 3};
        for (int i = 0; i < 4; i++) {
            due("two each, the first team lower ones first", four.row(i / 2, i % 2), rows[i]);
        }
        due("all four as early as may be", four.best(0), 0);
    }

    private static void bestFromWhereAndWhen() {
        EDGE.sentence("19: A TEAM goes on from where and when what it is about is READY; one about nothing from where it is, NOW");
        CottageYear year = Years.till(jobs(1, 12), 940);
        due("there at 950, ready at 963", year.best(0), 3);
        CottageYear just = Years.till(jobs(1, 12), 937);
        due("there at 947, ready at 960", just.best(0), 0);
        CottageYear two = jobs(2, 12);
        two.late(1, 800);
        two.plan();
        Years.till(two, 700);
        due("it waits at the second", Years.about(two, 0, 4), 2);
        due("nothing to go to", two.best(2), 0);
        CottageYear cleans = jobs(2, 12);
        cleans.state(0, 337);
        cleans.plan();
        Years.till(cleans, 600);
        due("cleans till 937, there at 947, ready at 960", cleans.best(0), 0);
        due("its way from there", cleans.best(2), 10);
        CottageYear longer = jobs(2, 12);
        longer.state(0, 338);
        longer.plan();
        Years.till(longer, 600);
        due("cleans till 938", longer.best(0), 1);
        CottageYear waits = jobs(2, 12);
        waits.plan();
        Years.till(waits, 590);
        waits.state(0, 338);
        due("waits, out at 600, cleans till 938", waits.best(0), 1);
        waits.late(0, 590);
        due("waits, out now, cleans till 928", waits.best(0), 0);
        waits.state(0, 347);
        due("waits, out now, cleans till 937", waits.best(0), 0);
        waits.state(0, 348);
        due("waits, out now, cleans till 938", waits.best(0), 1);
        CottageYear onItsWay = jobs(2, 12);
        onItsWay.way(0, 1, 90);
        onItsWay.way(0, 2, 90);
        onItsWay.state(1, 46);
        Years.till(onItsWay, 800);
        onItsWay.plan();
        onItsWay.tick(1);
        due("on its way to the first", Years.about(onItsWay, 0, 1), 0);
        due("there at 891, ready at 904, at the second at 914, ready at 960", onItsWay.best(0), 0);
        onItsWay.state(1, 47);
        due("ready at 961", onItsWay.best(0), 1);
        onItsWay.state(1, 46);
        onItsWay.late(0, 891);
        due("out as it is there", onItsWay.best(0), 0);
        onItsWay.late(0, 892);
        due("out a minute later", onItsWay.best(0), 1);
    }

    private static void bestAsToldNow() {
        EDGE.sentence("19: (as all is told NOW), asked again behind each call that changes it");
        CottageYear year = Years.till(jobs(1, 12), 937);
        due("there at 947, ready at 960", year.best(0), 0);
        year.tick(1);
        due("a minute later", year.best(0), 1);
        year.tick(0);
        due("no minute later", year.best(0), 1);
        year.tick(2);
        due("two minutes later", year.best(0), 3);
        year.state(0, 14);
        due("a minute more to clean", year.best(0), 4);
        year.way(0, 1, 11);
        due("a minute more to go", year.best(0), 5);
        year.late(0, 952);
        due("guests who leave a minute later", year.best(0), 6);
        CottageYear base = loading();
        due("loading", base.best(2), 35);
        base.rest(6);
        due("a minute more to load", base.best(2), 36);
        CottageYear plan = jobs(2, 12, 12);
        due("ways", plan.best(2), 20);
        plan.plan();
        plan.state(0, 350);
        due("one is moved", plan.best(1), 1);
        plan.plan();
        due("not against the new plan", plan.best(1), 0);
        plan.tick(1);
        due("none is left to go to", plan.best(2), 0);
        plan.closeDay();
        plan.openDay();
        due("on a new day: two jobs", plan.best(2), 20);
        CottageYear idle = Years.alike(1);
        idle.team(12);
        idle.book(0, 0, 1, false, 0);
        idle.openDay();
        due("no job", idle.best(2), 0);
        idle.closeDay();
        idle.openDay();
        due("on the next day a job", idle.best(2), 10);
        idle.closeDay();
        idle.openDay();
        due("on the next day none", idle.best(2), 0);
    }

    private static void planEdges() {
        EDGE.sentence("20: False: no DAY open");
        EDGE.isFalse("a new year", CottageYear::new, CottageYear::plan);
        EDGE.isFalse("between two days", Years::rich, CottageYear::plan);
        EDGE.isFalse("the year is over", Years::richOver, CottageYear::plan);
        EDGE.sentence("20: False: no PLAN can be");
        EDGE.isFalse("a job, no team", () -> jobs(1), CottageYear::plan);
        due("no job, no team", opened(Years.alike(1)).plan(), true);
        due("no job, a team", opened(teams(1)).plan(), true);
        due("all jobs gone to", Years.richEvening().plan(), true);
        EDGE.sentence("20: the PLAN at hand is BEST");
        CottageYear year = jobs(2, 12, 12);
        year.plan();
        due("planned twice is the same", year.plan(), true);
        due("row", year.row(0, 0), 0);
        due("row", year.row(0, 1), 1);
        year.late(0, 940);
        year.late(1, 800);
        due("it stays till it is planned anew", year.row(0, 0), 0);
        year.plan();
        due("planned anew", year.row(0, 0), 1);
        CottageYear held = heldUp(3);
        due("in the first row", held.row(0, 1), 2);
        due("none in the second", held.row(1, 0), NONE);
        held.plan();
        due("then none is in the first row", held.row(0, 0), NONE);
        due("nor behind that", held.row(0, 1), NONE);
        due("but all in the second", held.row(1, 0), 1);
        due("but all in the second", held.row(1, 1), 2);
        Years.till(held, 1000);
        due("and the second team went", held.job(1, 2, 7), 1);
    }

    private static void rowEdges() {
        Supplier<CottageYear> planned = () -> {
            CottageYear year = jobs(2, 12, 12);
            year.plan();
            return year;
        };
        EDGE.sentence("21: COTTAGE i of a TEAM's row. NONE without");
        due("the first", planned.get().row(0, 0), 0);
        due("the last", planned.get().row(0, 1), 1);
        for (int i : new int[] {-1, 2, 6, 7, LEAST, MOST}) {
            EDGE.none("place " + i, planned, year -> year.row(0, i));
        }
        EDGE.none("an empty row", planned, year -> year.row(1, 0));
        EDGE.none("without a plan", () -> jobs(2, 12, 12), year -> year.row(0, 0));
        due("gone to: out of the row", Years.till(planned.get(), 1).row(0, 0), 1);
        due("so the row is shorter", Years.till(planned.get(), 1).row(0, 1), NONE);
        EDGE.sentence("21: NONE: no such TEAM");
        for (int team : new int[] {-1, 2, 3, LEAST, MOST}) {
            EDGE.none("team " + team, planned, year -> year.row(team, 0));
        }
        EDGE.none("a fourth", () -> jobs(1, 12, 12, 12), year -> year.row(3, 0));
        EDGE.sentence("21: NONE: no DAY open");
        EDGE.none("closed", () -> {
            CottageYear year = planned.get();
            year.closeDay();
            return year;
        }, year -> year.row(0, 0));
    }

    private static void rowsOfSeven() {
        EDGE.sentence("21: a row of seven");
        CottageYear year = jobs(7, 30);
        year.plan();
        for (int i = 0; i < 7; i++) {
            due("place " + i, year.row(0, i), i);
        }
        due("no eighth", year.row(0, 7), NONE);
        Years.till(year, 1440);
        for (int c = 0; c < 7; c++) {
            due("all are ready: " + c, year.job(1, c, 5), 613 + 23 * c);
        }
        due("none is left in it", year.row(0, 0), NONE);
    }

    private static void tickBounds() {
        EDGE.sentence("22: n MINUTES (0 .. 500): NOW. NONE: n");
        due("0", jobs(1, 12).tick(0), 0);
        due("1", jobs(1, 12).tick(1), 1);
        due("500", jobs(1, 12).tick(500), 500);
        for (int n : new int[] {-1, 501, LEAST, MOST}) {
            EDGE.none("n " + n, Years::richDay, year -> year.tick(n));
        }
        EDGE.refused("0 changes nothing", Years::richDay, year -> year.tick(0), 650);
        EDGE.refused("0 changes nothing with a plan just made", () -> {
            CottageYear year = jobs(2, 12);
            year.way(0, 1, 0);
            year.plan();
            return year;
        }, year -> year.tick(0), 0);
        EDGE.sentence("22: NONE: NOW would be above 1,440");
        due("just 1,440", Years.till(jobs(1, 12), 1000).tick(440), 1440);
        EDGE.none("1,441", () -> Years.till(jobs(1, 12), 1000), year -> year.tick(441));
        EDGE.none("1,441", () -> Years.till(jobs(1, 12), 1440), year -> year.tick(1));
        EDGE.none("1,940", () -> Years.till(Years.richDay(), 1440), year -> year.tick(500));
        due("0 at the end", Years.till(jobs(1, 12), 1440).tick(0), 1440);
        EDGE.sentence("22: NONE: no DAY open");
        EDGE.none("a new year", CottageYear::new, year -> year.tick(0));
        EDGE.none("between two days", Years::rich, year -> year.tick(1));
        EDGE.none("the year is over", Years::richOver, year -> year.tick(1));
    }

    private static void minuteOrder() {
        EDGE.sentence("22: as long as something comes of it; A WAY of 0 minutes ends NOW, too");
        CottageYear year = jobs(3, 12);
        for (int place = 0; place < 3; place++) {
            for (int other = place + 1; other < 4; other++) {
                year.way(place, other, 0);
            }
        }
        for (int c = 0; c < 3; c++) {
            year.late(c, 0);
            year.state(c, 1);
        }
        year.plan();
        for (int minute = 1; minute < 4; minute++) {
            year.tick(1);
            due("begun in minute " + minute, year.job(1, minute - 1, 4), minute);
            due("not yet ready", year.job(1, minute - 1, 5), NONE);
        }
        year.tick(1);
        for (int c = 0; c < 3; c++) {
            due("ready a minute behind that", year.job(1, c, 5), c + 2);
        }
        due("about nothing", Years.about(year, 0, 0), 0);
        EDGE.sentence("22: one that waits at a COTTAGE that is OUT by NOW begins");
        CottageYear waits = jobs(1, 12);
        waits.plan();
        due("on its way", Years.about(Years.till(waits, 10), 0, 0), 1);
        due("there", Years.about(Years.till(waits, 11), 0, 0), 2);
        due("a minute ahead of OUT", Years.about(Years.till(waits, 599), 0, 0), 2);
        due("OUT", Years.about(Years.till(waits, 600), 0, 0), 3);
        due("a minute ahead of READY", Years.about(Years.till(waits, 612), 0, 0), 3);
        due("READY", Years.about(Years.till(waits, 613), 0, 0), 0);
        due("OUT as it comes", begunAt(11), 11);
        due("OUT a minute behind that", begunAt(12), 12);
        due("OUT a minute ahead of that", begunAt(10), 11);
    }

    private static int begunAt(int out) {
        CottageYear year = jobs(1, 12);
        year.late(0, out);
        year.plan();
        Years.till(year, 20);
        return year.job(1, 0, 4);
    }

    private static void aboutThrows() {
        EDGE.sentence("23: NoSuchElementException: no DAY open");
        Supplier<CottageYear> day = Years::richDay;
        EDGE.refused("a new year", CottageYear::new, year -> Years.about(year, 0, 0), Years.THROWN);
        for (int what = 0; what < 6; what++) {
            int asked = what;
            EDGE.refused("between two days: " + what, Years::rich, year -> Years.about(year, 0, asked), Years.THROWN);
        }
        EDGE.refused("the year is over", Years::richOver, year -> Years.about(year, 0, 0), Years.THROWN);
        EDGE.sentence("23: NoSuchElementException: no such TEAM");
        for (int team : new int[] {-1, 2, 3, LEAST, MOST}) {
            EDGE.refused("team " + team, day, year -> Years.about(year, team, 0), Years.THROWN);
        }
        EDGE.refused("none at all", () -> jobs(1), year -> Years.about(year, 0, 0), Years.THROWN);
        EDGE.refused("a fourth", () -> jobs(1, 12, 12, 12), year -> Years.about(year, 3, 0), Years.THROWN);
        due("the last team", Years.about(Years.richDay(), 1, 3), 15);
        EDGE.sentence("23: NoSuchElementException: what");
        for (int what : new int[] {-1, 6, 7, LEAST, MOST}) {
            EDGE.refused("what " + what, day, year -> Years.about(year, 0, what), Years.THROWN);
        }
        due("the last what", Years.about(opened(teams(1)), 0, 5), 0);
    }

    private static void aboutValues() {
        EDGE.sentence("23: 0 what it is about, 1 the COTTAGE (NONE), 2 the MINUTE (NONE), 3 LEFT, 4 the PLACE, 5 minutes");
        CottageYear year = jobs(2, 12);
        year.plan();
        dueAbout(year, 0, 0, NONE, NONE, 12, 0, 0);
        dueAbout(year, 1, 1, 0, 11, 11, 1, 10);
        dueAbout(year, 11, 2, 0, NONE, 11, 1, 10);
        dueAbout(year, 600, 3, 0, 613, 11, 1, 10);
        dueAbout(year, 613, 1, 1, 623, 10, 2, 20);
        dueAbout(year, 623, 3, 1, 636, 10, 2, 20);
        dueAbout(year, 636, 0, NONE, NONE, 10, 2, 20);
        dueAbout(year, 1440, 0, NONE, NONE, 10, 2, 20);
    }

    private static void dueAbout(CottageYear year, int minute, int... want) {
        Years.till(year, minute);
        for (int what = 0; what < want.length; what++) {
            due("at " + minute + ": " + what, Years.about(year, 0, what), want[what]);
        }
    }

    private static void jobRefused() {
        EDGE.sentence("24: of the JOB of a COTTAGE on the DAY of a WEEK (opened, or closed)");
        due("opened", jobs(1, 12).job(1, 0, 0), 600);
        due("closed", Years.at(closed(jobs(1, 12)), 3).job(1, 0, 0), 600);
        due("the year is over", Years.richOver().job(1, 0, 5), 669);
        EDGE.sentence("24: NONE for others");
        for (int week : new int[] {-1, 0, 3, 51, 52, LEAST, MOST}) {
            EDGE.none("week " + week, Years::richDay, year -> year.job(week, 0, 0));
        }
        EDGE.none("not opened yet", Years::rich, year -> year.job(2, 0, 0));
        for (int cottage : new int[] {-1, 3, 6, 7, LEAST, MOST}) {
            EDGE.none("cottage " + cottage, Years::richDay, year -> year.job(2, cottage, 0));
        }
        EDGE.none("an eighth", () -> jobs(7, 12), year -> year.job(1, 7, 0));
        EDGE.none("a cottage without a job", EdgeDayTest::withoutJob, year -> year.job(1, 1, 0));
        for (int what : new int[] {-1, 10, 11, LEAST, MOST}) {
            EDGE.none("what " + what, Years::richDay, year -> year.job(2, 0, what));
        }
        due("the last what", jobs(1, 12).job(1, 0, 9), 0);
        due("the last cottage", jobs(7, 12).job(1, 6, 0), 600);
        CottageYear last = Years.alike(1);
        last.book(0, 50, 1, false, 0);
        due("the last week", opened(Years.at(last, 51)).job(51, 0, 0), 600);
    }

    private static CottageYear closed(CottageYear year) {
        year.closeDay();
        return year;
    }

    private static void jobValues() {
        EDGE.sentence("24: 4 begun (NONE), 5 READY (NONE), 6 LATE (NONE: not READY), 7 the TEAM (NONE), 8 minutes");
        CottageYear year = jobs(1, 12);
        year.late(0, 948);
        year.plan();
        dueJob(year, 0, NONE, NONE, NONE, NONE, 0);
        dueJob(year, 1, NONE, NONE, NONE, 0, 10);
        dueJob(year, 947, NONE, NONE, NONE, 0, 10);
        dueJob(year, 948, 948, NONE, NONE, 0, 10);
        dueJob(year, 960, 948, NONE, NONE, 0, 10);
        dueJob(year, 961, 948, 961, 1, 0, 10);
        year.closeDay();
        due("9 nothing is BOOKED without TERMS", year.job(1, 0, 9), 0);
        CottageYear out = jobs(1, 12);
        out.plan();
        Years.till(out, 605);
        out.closeDay();
        due("left out: begun", out.job(1, 0, 4), 600);
        due("left out: not ready", out.job(1, 0, 5), NONE);
        due("left out: not late", out.job(1, 0, 6), NONE);
        due("left out: who went", out.job(1, 0, 7), 0);
    }

    private static void dueJob(CottageYear year, int minute, int... want) {
        Years.till(year, minute);
        for (int i = 0; i < want.length; i++) {
            due("at " + minute + ": " + (4 + i), year.job(1, 0, 4 + i), want[i]);
        }
    }
}
