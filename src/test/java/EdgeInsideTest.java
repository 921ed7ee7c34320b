import java.lang.reflect.Field;

/**
 * Edges that no run of 512 calls can come to, so that the state is set from behind: a CODE that was had already (no two
 * of the first 60 are alike) and 3,000 LINES (60 JOBS and 20 TERMS make 1,200 at most).
 */
public final class EdgeInsideTest {
    private static final int NONE = CottageYear.NONE;
    private static final int NO_LINE = -1000000;
    /** The first CODES of a year. */
    private static final int[] CODES = {4774, 4153, 1196, 2870};
    private static final Edge EDGE = new Edge("edges from behind");

    public static void main(String[] args) throws ReflectiveOperationException {
        codeOfThreeStaysAhead();
        codeOfThatCottage();
        codeOfStaysAlone();
        lastLine();
        oneLineTooMany();
        someLinesTooMany();
        EDGE.end();
    }

    private static Field field(Object of, String name) throws ReflectiveOperationException {
        Field field = of.getClass().getDeclaredField(name);
        field.setAccessible(true);
        return field;
    }

    /** As if the year had not given any CODE yet. */
    private static void startCodesAnew(CottageYear year) throws ReflectiveOperationException {
        field(year, "codeStep").setLong(year, 1);
    }

    private static void setLines(CottageYear year, int many) throws ReflectiveOperationException {
        Object wages = field(year, "wages").get(year);
        field(wages, "lineCount").setInt(wages, many);
    }

    private static void codeOfThreeStaysAhead() throws ReflectiveOperationException {
        EDGE.sentence("42: again if one of the three STAYS ahead in that COTTAGE had it");
        CottageYear year = Years.alike(1);
        for (int week = 0; week < 9; week++) {
            startCodesAnew(year);
            int booking = year.book(0, week, 1, false, 0);
            year.openDay();
            EDGE.due("week " + week, year.code(booking), CODES[week % 4]);
            year.closeDay();
        }
    }

    private static void codeOfThatCottage() throws ReflectiveOperationException {
        EDGE.sentence("42: in that COTTAGE");
        CottageYear year = Years.alike(2);
        year.book(0, 0, 1, false, 0);
        year.book(1, 1, 1, false, 0);
        year.openDay();
        year.closeDay();
        startCodesAnew(year);
        year.openDay();
        EDGE.due("the same in another one", year.code(1), CODES[0]);
    }

    private static void codeOfStaysAlone() throws ReflectiveOperationException {
        EDGE.sentence("42: STAYS ahead, however long ago");
        CottageYear year = Years.alike(1);
        for (int week : new int[] {0, 5, 6, 9}) {
            year.book(0, week, 1, false, 0);
        }
        year.shut(0, 5, true);
        int[] want = {CODES[0], NONE, CODES[1], CODES[2]};
        for (int week = 0; week < 10; week++) {
            startCodesAnew(year);
            year.openDay();
            year.closeDay();
        }
        for (int booking = 0; booking < want.length; booking++) {
            EDGE.due("booking " + booking, year.code(booking), want[booking]);
        }
    }

    /** Two JOBS READY, LINES due for both as the DAY is closed. */
    private static CottageYear twoLinesDue(int lines) throws ReflectiveOperationException {
        CottageYear year = Years.alike(2);
        year.team(12);
        Check.tape(year, "c");
        year.terms(0);
        for (int c = 0; c < 2; c++) {
            year.book(c, 0, 1, false, 0);
            year.book(c, 1, 1, false, 0);
        }
        Check.pass(year, 1);
        year.openDay();
        year.plan();
        Years.till(year, 700);
        setLines(year, lines);
        return year;
    }

    private static void lastLine() throws ReflectiveOperationException {
        EDGE.sentence("16: 3,000 LINES at most");
        CottageYear year = twoLinesDue(2998);
        EDGE.due("two more", year.closeDay(), 2);
        EDGE.due("there are 3,000", year.count(8), 3000);
        EDGE.due("the last one", year.line(2999, 4), 13);
        EDGE.due("no more", year.line(3000, 4), NO_LINE);
        EDGE.due("the day is closed", year.count(0), 2);
        year.openDay();
        EDGE.due("none more is not too many", year.closeDay(), 0);
    }

    private static void dueRefused(int lines) throws ReflectiveOperationException {
        CottageYear year = twoLinesDue(lines);
        int dirty = year.sets(2);
        EDGE.due("too many", year.closeDay(), NONE);
        EDGE.due("as many as before", year.count(8), lines);
        EDGE.due("no coins", year.count(9), 0);
        EDGE.due("no line", year.line(lines, 4), NO_LINE);
        EDGE.due("nothing is booked", year.job(1, 0, 9) + year.job(1, 1, 9), 0);
        EDGE.due("W", year.count(0), 1);
        EDGE.due("the day is open", year.count(1), 1);
        EDGE.due("now", year.count(2), 700);
        EDGE.due("dirty ones", year.sets(2), dirty);
        EDGE.due("none left out", year.count(12), 0);
        EDGE.due("it goes on", year.tick(1), 701);
        setLines(year, 5);
        EDGE.due("with room it is closed", year.closeDay(), 2);
        EDGE.due("the lines are whole", year.line(5, 4) + year.line(6, 4), 26);
        EDGE.due("there are seven", year.count(8), 7);
        EDGE.due("their coins", year.count(9), 26);
        EDGE.due("booked", year.job(1, 1, 9), 13);
    }

    private static void oneLineTooMany() throws ReflectiveOperationException {
        EDGE.sentence("16: NONE: too many (3,000 and one)");
        dueRefused(2999);
    }

    private static void someLinesTooMany() throws ReflectiveOperationException {
        EDGE.sentence("16: NONE: too many (3,000 and two)");
        dueRefused(3000);
    }
}
