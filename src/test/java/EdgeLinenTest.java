import java.util.function.Supplier;

/** Promises 25 to 27 at their edges, sentence by sentence. */
public final class EdgeLinenTest {
    private static final int NONE = CottageYear.NONE;
    private static final int LEAST = Integer.MIN_VALUE;
    private static final int MOST = Integer.MAX_VALUE;
    private static final Edge EDGE = new Edge("edges of 25 to 27");

    public static void main(String[] args) {
        linenBounds();
        linenRefused();
        setsBounds();
        setsAtFirst();
        washedByOne();
        hiredByOne();
        dirtyAndBack();
        leavesTheBase();
        fewestFew();
        fewestMany();
        fewestOfWhat();
        fewestInTheLastWeek();
        fewestIsEnough();
        EDGE.end();
    }

    private static void due(String what, long got, long want) {
        EDGE.due(what, got, want);
    }

    private static void due(String what, boolean got, boolean want) {
        EDGE.due(what, got, want);
    }

    private static void dueSets(CottageYear year, String when, int... want) {
        for (int what = 0; what < want.length; what++) {
            due(when + ": sets(" + what + ")", year.sets(what), want[what]);
        }
    }

    /** Seven COTTAGES; in each WEEK from 0 on so many GUESTS, spread over them. */
    private static CottageYear guests(int sets, int wash, int... guests) {
        CottageYear year = Years.alike(7);
        year.linen(sets, wash);
        for (int week = 0; week < guests.length; week++) {
            int rest = guests[week];
            for (int c = 0; c < 7 && rest > 0; c++) {
                year.book(c, week, Math.min(12, rest), false, 0);
                rest -= Math.min(12, rest);
            }
        }
        return year;
    }

    private static void linenBounds() {
        EDGE.sentence("25: SETS of linen (0 .. 200)");
        for (int sets : new int[] {0, 200}) {
            CottageYear year = new CottageYear();
            due("sets " + sets, year.linen(sets, 10), true);
            due("all clean at the base", year.sets(0), sets);
        }
        Supplier<CottageYear> made = () -> guests(30, 7, 20, 20, 20);
        for (int sets : new int[] {-1, 201, LEAST, MOST}) {
            EDGE.isFalse("sets " + sets, made, year -> year.linen(sets, 10));
        }
        EDGE.sentence("25: WASH (0 .. 100)");
        for (int wash : new int[] {0, 100}) {
            CottageYear year = guests(200, wash, 84, 26);
            due("wash " + wash, year.linen(200, wash), true);
            Years.at(year, 3);
            due("dirty", year.sets(2), 110 - Math.min(84, wash));
        }
        for (int wash : new int[] {-1, 101, LEAST, MOST}) {
            EDGE.isFalse("wash " + wash, made, year -> year.linen(20, wash));
        }
        EDGE.sentence("25: all CLEAN at the base at first");
        CottageYear anew = new CottageYear();
        anew.linen(100, 3);
        anew.linen(40, 3);
        dueSets(anew, "told anew", 40, 0, 0, 0, 0);
    }

    private static void linenRefused() {
        EDGE.sentence("25: False: a DAY was opened");
        Supplier<CottageYear> open = () -> {
            CottageYear year = guests(30, 7, 20, 20, 20);
            year.openDay();
            return year;
        };
        EDGE.isFalse("it is open", open, year -> year.linen(50, 20));
        EDGE.isFalse("it was closed", () -> {
            CottageYear year = open.get();
            year.closeDay();
            return year;
        }, year -> year.linen(50, 20));
        EDGE.isFalse("in the midst of the year", Years::rich, year -> year.linen(50, 20));
        EDGE.isFalse("the year is over", Years::richOver, year -> year.linen(50, 20));
        due("none was opened", guests(30, 7, 20).linen(50, 20), true);
    }

    private static void setsBounds() {
        EDGE.sentence("26: NONE for others");
        for (int what : new int[] {-1, 5, 6, LEAST, MOST}) {
            EDGE.none("what " + what, Years::rich, year -> year.sets(what));
        }
        due("0", Years.rich().sets(0), 0);
        due("4", Years.rich().sets(4), 2);
    }

    private static void setsAtFirst() {
        EDGE.sentence("26: SETS 20 at first, WASH 10 at first");
        dueSets(new CottageYear(), "at first", 20, 0, 0, 0, 0);
        CottageYear year = Years.alike(1);
        year.book(0, 0, 11, false, 0);
        Years.at(year, 2);
        dueSets(year, "eleven are dirty", 9, 0, 11, 0, 0);
        year.openDay();
        dueSets(year, "ten are washed", 19, 0, 1, 0, 0);
    }

    private static void washedByOne() {
        EDGE.sentence("26: of the dirty ones at most WASH");
        for (int guests = 4; guests < 7; guests++) {
            CottageYear year = guests(20, 5, guests);
            Years.at(year, 2);
            due("dirty", year.sets(2), guests);
            year.openDay();
            due("five of " + guests, year.sets(2), Math.max(0, guests - 5));
            due("clean", year.sets(0), 20 - Math.max(0, guests - 5));
        }
        EDGE.sentence("26: that were dirty as the DAY ahead was closed");
        CottageYear year = guests(20, 5, 3);
        due("none in week 0", year.openDay(), 0);
        dueSets(year, "they lie there", 17, 3, 0, 0, 0);
        year.closeDay();
        dueSets(year, "closed: they are not dirty yet", 17, 3, 0, 0, 0);
        year.openDay();
        dueSets(year, "the next day: not washed", 17, 3, 0, 0, 0);
        year.closeDay();
        dueSets(year, "closed: dirty", 17, 0, 3, 0, 0);
        year.openDay();
        dueSets(year, "then washed", 20, 0, 0, 0, 0);
        EDGE.sentence("26: first what is WASHED comes back CLEAN, then LINEN leaves");
        CottageYear same = guests(6, 6, 6, 0, 6);
        Years.at(same, 2);
        same.openDay();
        dueSets(same, "washed ones go out on the same day", 0, 6, 0, 0, 0);
    }

    private static void hiredByOne() {
        EDGE.sentence("26: what CLEAN ones lack is HIRED (kept apart; not SETS)");
        for (int sets = 0; sets <= 8; sets++) {
            CottageYear year = guests(sets, 0, 7);
            year.openDay();
            int own = Math.min(7, sets);
            dueSets(year, sets + " sets for 7", sets - own, own, 0, 7 - own, 7 - own);
        }
        CottageYear none = guests(0, 100, 84, 84, 84);
        none.openDay();
        dueSets(none, "no sets at all", 0, 0, 0, 84, 84);
        none.closeDay();
        none.openDay();
        dueSets(none, "both weeks", 0, 0, 0, 168, 168);
        none.closeDay();
        dueSets(none, "they go back", 0, 0, 0, 84, 168);
        none.openDay();
        dueSets(none, "all so far", 0, 0, 0, 168, 252);
    }

    private static void dirtyAndBack() {
        EDGE.sentence("26: As it is closed, what lay in COTTAGES for STAYS of the WEEK ahead is dirty (HIRED ones go back)");
        CottageYear year = guests(10, 0, 4, 9);
        year.openDay();
        year.closeDay();
        dueSets(year, "week 0 closed", 6, 4, 0, 0, 0);
        year.openDay();
        dueSets(year, "week 1", 0, 10, 0, 3, 3);
        year.closeDay();
        dueSets(year, "week 1 closed", 0, 6, 4, 3, 3);
        year.openDay();
        dueSets(year, "week 2: no wash", 0, 6, 4, 3, 3);
        year.closeDay();
        dueSets(year, "week 2 closed", 0, 0, 10, 0, 3);
        Years.at(year, 52);
        dueSets(year, "the year is over", 0, 0, 10, 0, 3);
    }

    private static void leavesTheBase() {
        EDGE.sentence("26: LINEN of all JOBS, and of STAYS that come to COTTAGES without a JOB, leaves the base");
        CottageYear year = Years.alike(4);
        year.book(0, 0, 5, false, 0);
        year.book(1, 0, 5, false, 0);
        year.book(0, 1, 1, false, 0);
        year.book(2, 1, 2, false, 0);
        year.book(3, 1, 4, false, 0);
        year.shut(3, 1, true);
        year.book(1, 1, 6, false, 0);
        year.cancel(5);
        Check.pass(year, 1);
        dueSets(year, "ten lie there", 10, 10, 0, 0, 0);
        year.openDay();
        dueSets(year, "1 for the job, 2 without a job, none for the shut and the cancelled one", 7, 13, 0, 0, 0);
        year.closeDay();
        dueSets(year, "whether the jobs were done or not", 7, 3, 10, 0, 0);
    }

    private static void fewestFew() {
        EDGE.sentence("27: the least SETS (0 .. 200)");
        due("no cottages", new CottageYear().fewest(), 0);
        due("no bookings", Years.alike(7).fewest(), 0);
        due("one guest", guests(20, 10, 1).fewest(), 1);
        due("two weeks", guests(20, 10, 1, 1).fewest(), 2);
        due("three weeks, one washed", guests(20, 1, 1, 1, 1).fewest(), 2);
        due("three weeks, none washed", guests(20, 0, 1, 1, 1).fewest(), 3);
        due("it does not hang on the sets there are", guests(0, 10, 7).fewest(), 7);
    }

    private static void fewestMany() {
        EDGE.sentence("27: NONE: with 200, too");
        due("199", guests(0, 0, 84, 84, 31).fewest(), 199);
        due("200", guests(0, 0, 84, 84, 32).fewest(), 200);
        due("201", guests(0, 0, 84, 84, 33).fewest(), NONE);
        due("201, but one is washed", guests(0, 1, 84, 84, 33).fewest(), 200);
        due("84 a week, all washed a week later", guests(0, 84, 84, 84, 84, 84).fewest(), 168);
        due("16 missing a week", guests(0, 68, 84, 84, 84, 84).fewest(), 200);
        due("17 missing a week", guests(0, 67, 84, 84, 84, 84).fewest(), NONE);
        EDGE.refused("asking changes nothing", Years::rich, CottageYear::fewest, 15);
    }

    private static void fewestOfWhat() {
        EDGE.sentence("27: by all BOOKINGS in force as if each were a STAY (and none SHUT)");
        CottageYear year = guests(0, 0, 5, 6, 7);
        due("all", year.fewest(), 18);
        year.cancel(1);
        due("not the cancelled one", year.fewest(), 12);
        year.shut(0, 2, true);
        due("the shut one, too", year.fewest(), 12);
        Years.at(year, 3);
        due("those of weeks that were, too", year.fewest(), 12);
        due("at the end of the year, too", Years.at(year, 52).fewest(), 12);
        CottageYear moved = guests(0, 0, 5);
        moved.shut(0, 0, true);
        moved.move(0);
        due("a moved one once", moved.fewest(), 5);
    }

    private static void fewestInTheLastWeek() {
        EDGE.sentence("27: nothing is HIRED in any WEEK");
        CottageYear year = Years.alike(2);
        year.book(0, 51, 12, false, 0);
        due("the last week", year.fewest(), 12);
        year.book(0, 50, 5, false, 0);
        due("the week ahead of it is not back", year.fewest(), 17);
        year.book(0, 49, 5, false, 0);
        due("the week ahead of that is", year.fewest(), 17);
        year.book(1, 0, 12, false, 0);
        due("the first week is long back", year.fewest(), 17);
    }

    /** That FEWEST is what the opened DAYS themselves show: with it nothing is HIRED, with one less something is. */
    private static void fewestIsEnough() {
        EDGE.sentence("27: all clean at the beginning of WEEK 0");
        int[][] weeks = {{5, 6, 7}, {12, 0, 12, 3, 20}, {20, 20, 20, 20}, {1, 0, 30, 2, 2, 40, 1}, {84, 3, 84, 5}};
        for (int wash : new int[] {0, 3, 10, 100}) {
            for (int[] guests : weeks) {
                int fewest = guests(0, wash, guests).fewest();
                if (fewest == NONE) {
                    continue;
                }
                due("hired with " + fewest, Years.at(guests(fewest, wash, guests), 10).sets(4), 0);
                due("hired with one less", Years.at(guests(fewest - 1, wash, guests), 10).sets(4) > 0, true);
            }
        }
    }
}
