/** Promises 25 to 27. */
public final class LinenTest {
    private static final int NONE = CottageYear.NONE;
    private static final Check CHECK = new Check("linen");

    public static void main(String[] args) {
        linen();
        sets();
        washedAtFirst();
        laundryLags();
        hired();
        fewest();
        fewestOfMany();
        CHECK.end();
    }

    private static void due(String call, long got, long want) {
        CHECK.due(call, got, want);
    }

    private static void due(String call, boolean got, boolean want) {
        CHECK.due(call, got, want);
    }

    private static void dueSets(CottageYear year, String when, int... want) {
        for (int what = 0; what < want.length; what++) {
            due("26 " + when + ": sets(" + what + ")", year.sets(what), want[what]);
        }
    }

    /** One COTTAGE with so many GUESTS in each WEEK from 0 on. */
    private static CottageYear guests(int... guests) {
        CottageYear year = new CottageYear();
        year.cottage(12, true, 100, 10);
        for (int week = 0; week < guests.length; week++) {
            if (guests[week] > 0) {
                year.book(0, week, guests[week], false, 0);
            }
        }
        return year;
    }

    private static void linen() {
        CottageYear year = new CottageYear();
        due("25 highest", year.linen(200, 100), true);
        due("25 sets", year.sets(0), 200);
        due("25 lowest", year.linen(0, 0), true);
        due("25 sets", year.sets(0), 0);
        due("25 sets below", year.linen(-1, 0), false);
        due("25 sets above", year.linen(201, 0), false);
        due("25 wash below", year.linen(0, -1), false);
        due("25 wash above", year.linen(0, 101), false);
        year.openDay();
        due("25 a day is open", year.linen(5, 5), false);
        year.closeDay();
        due("25 a day was opened", year.linen(5, 5), false);
        due("25 refused", year.sets(0), 0);
    }

    private static void sets() {
        CottageYear year = Check.threeCottages();
        year.book(0, 0, 4, false, 0);
        year.book(1, 0, 2, false, 0);
        year.shut(1, 0, true);
        year.book(2, 1, 5, false, 0);
        dueSets(year, "at first", 20, 0, 0, 0, 0);
        due("26 what", year.sets(5), NONE);
        due("26 what", year.sets(-1), NONE);
        year.openDay();
        dueSets(year, "not for the shut one", 16, 4, 0, 0, 0);
        year.closeDay();
        dueSets(year, "they lie there", 16, 4, 0, 0, 0);
        year.openDay();
        dueSets(year, "both weeks", 11, 9, 0, 0, 0);
        year.closeDay();
        dueSets(year, "dirty", 11, 5, 4, 0, 0);
        year.openDay();
        dueSets(year, "washed", 15, 5, 0, 0, 0);
    }

    private static void washedAtFirst() {
        CottageYear year = guests(12);
        Check.pass(year, 2);
        dueSets(year, "twelve dirty", 8, 0, 12, 0, 0);
        year.openDay();
        dueSets(year, "ten are washed", 18, 0, 2, 0, 0);
    }

    private static void laundryLags() {
        CottageYear year = guests(12, 0, 12);
        year.linen(30, 5);
        Check.pass(year, 2);
        dueSets(year, "dirty", 18, 0, 12, 0, 0);
        year.openDay();
        dueSets(year, "five are washed", 11, 12, 7, 0, 0);
        year.closeDay();
        year.openDay();
        dueSets(year, "five more", 16, 12, 2, 0, 0);
        year.closeDay();
        year.openDay();
        dueSets(year, "five of fourteen", 16 + 5, 0, 9, 0, 0);
    }

    private static void hired() {
        CottageYear year = guests(8, 8, 8);
        year.linen(10, 3);
        year.openDay();
        dueSets(year, "week 0", 2, 8, 0, 0, 0);
        year.closeDay();
        year.openDay();
        dueSets(year, "week 1", 0, 10, 0, 6, 6);
        year.closeDay();
        dueSets(year, "week 1, closed", 0, 2, 8, 6, 6);
        year.openDay();
        dueSets(year, "week 2", 0, 5, 5, 11, 11);
        year.closeDay();
        dueSets(year, "hired ones go back", 0, 3, 7, 5, 11);
        Check.pass(year, 1);
        dueSets(year, "all go back", 3, 0, 7, 0, 11);
    }

    private static void fewest() {
        due("27 without bookings", new CottageYear().fewest(), 0);
        CottageYear year = guests(5, 6, 7);
        due("27 ten are washed", year.fewest(), 5 + 6 + 7 - 5);
        year.linen(20, 0);
        due("27 none is washed", year.fewest(), 18);
        year.linen(20, 2);
        due("27 two are washed", year.fewest(), 16);
        year.cancel(1);
        due("27 not cancelled ones", year.fewest(), 10);
        year.shut(0, 2, true);
        due("27 as if none was shut", year.fewest(), 10);
        Check.pass(year, 3);
        due("27 also of weeks that were", year.fewest(), 10);
        due("27 ten a week at first", guests(12, 0, 12).fewest(), 14);
        CottageYear slow = guests(12, 0, 2, 0, 12);
        slow.linen(0, 4);
        // 12 dirty, 4 a week are washed in weeks 2, 3 and 4, and the 2 are not yet
        due("27 what is washed is no more dirty", slow.fewest(), 12 + 2 - 12 + 12);
        CottageYear last = guests(5, 0, 1, 0, 12);
        due("27 one only comes back for the last week", last.fewest(), 12);
        CottageYear gap = guests(9, 0, 9);
        due("27 washed in between", gap.fewest(), 9);
        gap.linen(0, 5);
        due("27 five of nine washed in between", gap.fewest(), 13);
    }

    private static void fewestOfMany() {
        CottageYear year = new CottageYear();
        year.linen(0, 0);
        for (int c = 0; c < 7; c++) {
            year.cottage(12, true, 100, 10);
        }
        for (int i = 0; i < 16; i++) {
            year.book(i % 7, i / 7, 12, false, 0);
        }
        due("27 192", year.fewest(), 192);
        year.book(2, 2, 8, false, 0);
        due("27 just 200", year.fewest(), 200);
        year.book(3, 2, 1, false, 0);
        due("27 200 are not enough", year.fewest(), NONE);
    }
}
