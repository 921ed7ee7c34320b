import java.util.function.Supplier;

/** Promises 1 to 11 at their edges, sentence by sentence. */
public final class EdgeCottagesTest {
    private static final int NONE = CottageYear.NONE;
    private static final int LEAST = Integer.MIN_VALUE;
    private static final int MOST = Integer.MAX_VALUE;
    private static final Edge EDGE = new Edge("edges of 1 to 11");

    public static void main(String[] args) {
        newObject();
        yearsApart();
        cottageBounds();
        cottageRefused();
        cottageMany();
        cottageUsed();
        rentBounds();
        rentFromNowOn();
        bookBounds();
        bookRefused();
        bookWeeks();
        bookInForce();
        bookMany();
        cancelEdges();
        cancelRefused();
        shutWeeks();
        shutRefused();
        movesBounds();
        movesFewAndMany();
        movesGoals();
        movesOrder();
        movedEdges();
        moveEdges();
        moveStaysBehind();
        bookedBounds();
        bookedValues();
        takenBounds();
        takenWhat();
        EDGE.end();
    }

    private static void due(String what, long got, long want) {
        EDGE.due(what, got, want);
    }

    private static void due(String what, boolean got, boolean want) {
        EDGE.due(what, got, want);
    }

    private static void newObject() {
        EDGE.sentence("1: WEEK 0, no COTTAGES, no TEAMS");
        due("W", new CottageYear().count(0), 0);
        due("no day", new CottageYear().count(1), 0);
        due("no now", new CottageYear().count(2), NONE);
        due("cottages", new CottageYear().count(3), 0);
        due("teams", new CottageYear().count(6), 0);
        for (int what = 4; what < 15; what++) {
            due("count(" + what + ")", new CottageYear().count(what), 0);
        }
        Supplier<CottageYear> bare = CottageYear::new;
        EDGE.isFalse("no cottage 0 to rent", bare, year -> year.rent(0, 1));
        EDGE.none("no cottage 0 to book", bare, year -> year.book(0, 0, 1, false, 0));
        EDGE.isFalse("no booking 0 to cancel", bare, year -> year.cancel(0));
        EDGE.isFalse("no cottage 0 to shut", bare, year -> year.shut(0, 0, true));
        EDGE.none("no booking 0 to be moved", bare, year -> year.moved(0));
        EDGE.none("no booking 0", bare, year -> year.booked(0, 0));
        EDGE.none("no cottage 0 to look at", bare, year -> year.look(0, 0, 0, 0));
        EDGE.none("no team 0 to blame", bare, year -> year.blamed(0, 0));
        EDGE.none("no terms in force", bare, year -> year.force(0, 0));
        EDGE.none("no day to close", bare, CottageYear::closeDay);
        EDGE.none("no job", bare, year -> year.job(0, 0, 0));
        due("no moves", new CottageYear().moves(0, 0), 0);
        due("nothing to move", new CottageYear().move(51), 0);
        due("nothing taken", new CottageYear().taken(0, 51), 0);
        due("a day without anything", new CottageYear().openDay(), 0);
    }

    private static void yearsApart() {
        EDGE.sentence("1: a new object, whatever others were made ahead of it");
        CottageYear other = Years.richDay();
        CottageYear year = new CottageYear();
        due("W", year.count(0), 0);
        due("cottages", year.count(3), 0);
        due("tape", year.count(14), 0);
        due("sets", year.sets(0), 20);
        year.cottage(1, true, 1, 10);
        year.book(0, 0, 1, false, 0);
        year.openDay();
        due("the first code", year.code(0), 4774);
        due("the other one is as it was", other.count(3), 3);
    }

    private static CottageYear one() {
        return Years.alike(1);
    }

    private static void cottageBounds() {
        Supplier<CottageYear> rich = Years::rich;
        EDGE.sentence("2: BEDS (1 .. 12)");
        due("1", new CottageYear().cottage(1, true, 100, 50), 0);
        due("12", new CottageYear().cottage(12, true, 100, 50), 0);
        for (int beds : new int[] {0, 13, -1, LEAST, MOST}) {
            EDGE.none("beds " + beds, rich, year -> year.cottage(beds, true, 100, 50));
        }
        EDGE.sentence("2: RENT (1 .. 2,000)");
        due("1", new CottageYear().cottage(5, true, 1, 50), 0);
        due("2,000", new CottageYear().cottage(5, true, 2000, 50), 0);
        for (int rent : new int[] {0, 2001, -1, LEAST, MOST}) {
            EDGE.none("rent " + rent, rich, year -> year.cottage(5, true, rent, 50));
        }
        EDGE.sentence("2: MINUTES to clean (10 .. 240)");
        due("10", new CottageYear().cottage(5, true, 100, 10), 0);
        due("240", new CottageYear().cottage(5, true, 100, 240), 0);
        for (int minutes : new int[] {9, 241, 0, -10, LEAST, MOST}) {
            EDGE.none("minutes " + minutes, rich, year -> year.cottage(5, true, 100, minutes));
        }
    }

    private static void cottageRefused() {
        EDGE.sentence("2: NONE: a DAY is open");
        EDGE.none("at its beginning", () -> {
            CottageYear year = Years.rich();
            year.openDay();
            return year;
        }, year -> year.cottage(5, true, 100, 50));
        EDGE.none("in its midst", Years::richDay, year -> year.cottage(5, true, 100, 50));
        CottageYear closed = Years.richDay();
        closed.closeDay();
        due("not behind it", closed.cottage(5, true, 100, 50), 3);
        due("not when the year is over", Years.richOver().cottage(5, true, 100, 50), 3);
    }

    private static void cottageMany() {
        EDGE.sentence("2: NONE: there are seven");
        CottageYear year = new CottageYear();
        for (int i = 0; i < 7; i++) {
            due("there are " + i, year.count(3), i);
            due("its number", year.cottage(1, false, 100, 50), i);
        }
        due("there are seven", year.count(3), 7);
        EDGE.none("the eighth", () -> Years.alike(7), eighth -> eighth.cottage(5, true, 100, 50));
        due("the last one of seven is one", Years.alike(7).rent(6, 5), true);
        EDGE.isFalse("no eighth to rent", () -> Years.alike(7), of -> of.rent(7, 5));
        EDGE.none("no eighth to book", () -> Years.alike(7), of -> of.book(7, 0, 1, false, 0));
        EDGE.isFalse("no eighth to shut", () -> Years.alike(7), of -> of.shut(7, 0, true));
        EDGE.none("no eighth to look at", () -> Years.alike(7), of -> of.look(7, 0, 0, 0));
        due("six are not seven", Years.alike(6).cottage(5, true, 100, 50), 6);
    }

    /** That what was told at the bounds is what is used. */
    private static void cottageUsed() {
        EDGE.sentence("2: a COTTAGE with BEDS, DOGS, RENT, MINUTES at their bounds");
        CottageYear year = new CottageYear();
        year.cottage(1, false, 1, 10);
        year.cottage(12, true, 2000, 240);
        due("one bed", year.book(0, 0, 1, false, 0), 0);
        due("twelve beds", year.book(1, 0, 12, true, 0), 1);
        due("rent 1", year.booked(0, 5), 1);
        due("rent 2,000", year.booked(1, 5), 2000);
        due("the first comes", year.openDay(), 0);
        year.closeDay();
        due("both leave", year.openDay(), 2);
        due("10 and one guest", year.job(1, 0, 2), 10 + 3);
        due("240, twelve guests and a dog", year.job(1, 1, 2), 240 + 36 + 20);
    }

    private static void rentBounds() {
        EDGE.sentence("3: RENT (1 .. 2,000). False: out of bounds");
        for (int coins : new int[] {1, 2000}) {
            CottageYear year = one();
            due("rent " + coins, year.rent(0, coins), true);
            due("price", year.booked(year.book(0, 0, 1, false, 0), 5), coins);
        }
        for (int coins : new int[] {0, 2001, -1, LEAST, MOST}) {
            EDGE.isFalse("rent " + coins, Years::rich, year -> year.rent(0, coins));
        }
        EDGE.sentence("3: False: no such one");
        for (int cottage : new int[] {-1, 3, 6, 7, LEAST, MOST}) {
            EDGE.isFalse("cottage " + cottage, Years::rich, year -> year.rent(cottage, 100));
        }
        due("the last one", Years.rich().rent(2, 100), true);
        due("the last of seven", Years.alike(7).rent(6, 100), true);
    }

    private static void rentFromNowOn() {
        EDGE.sentence("3: RENT of a COTTAGE from now on");
        CottageYear year = one();
        int early = year.book(0, 0, 1, false, 0);
        due("what it is", year.rent(0, 100), true);
        due("another", year.rent(0, 7), true);
        due("the price then", year.booked(early, 5), 100);
        due("the price now", year.booked(year.book(0, 1, 1, false, 0), 5), 7);
        year.openDay();
        due("also while a day is open", year.rent(0, 8), true);
        due("the price now", year.booked(year.book(0, 2, 1, false, 0), 5), 8);
        year.closeDay();
        due("taken by the price", year.taken(0, 0), 100);
        due("also when the year is over", Years.at(one(), 52).rent(0, 9), true);
        CottageYear two = Years.alike(2);
        two.rent(0, 33);
        due("only of that one", two.booked(two.book(1, 0, 1, false, 0), 5), 100);
    }

    private static void bookBounds() {
        Supplier<CottageYear> rich = Years::rich;
        EDGE.sentence("4: GUESTS (1 to its BEDS)");
        due("1 of 4", Years.rich().book(0, 3, 1, false, 0), 9);
        due("4 of 4", Years.rich().book(0, 3, 4, false, 0), 9);
        due("2 of 2", Years.rich().book(1, 3, 2, false, 0), 9);
        due("6 of 6", Years.rich().book(2, 5, 6, false, 0), 9);
        for (int guests : new int[] {0, 5, -1, LEAST, MOST}) {
            EDGE.none("guests " + guests + " of 4", rich, year -> year.book(0, 3, guests, false, 0));
        }
        EDGE.none("3 of 2", rich, year -> year.book(1, 3, 3, false, 0));
        EDGE.none("7 of 6", rich, year -> year.book(2, 5, 7, false, 0));
        due("12 of 12", one().book(0, 0, 12, false, 0), 0);
        EDGE.none("13 of 12", EdgeCottagesTest::one, year -> year.book(0, 0, 13, false, 0));
        EDGE.sentence("4: whether with a DOG (if DOGS may)");
        due("a dog where dogs may", Years.rich().book(0, 3, 1, true, 0), 9);
        due("none where dogs may", Years.rich().book(0, 3, 1, false, 0), 9);
        due("none where none may", Years.rich().book(1, 3, 1, false, 0), 9);
        EDGE.none("a dog where none may", rich, year -> year.book(1, 3, 1, true, 0));
        EDGE.sentence("4: a DEPOSIT (0 .. 1,000)");
        due("0", Years.rich().book(0, 3, 1, false, 0), 9);
        due("1,000", Years.rich().book(0, 3, 1, false, 1000), 9);
        for (int deposit : new int[] {-1, 1001, LEAST, MOST}) {
            EDGE.none("deposit " + deposit, rich, year -> year.book(0, 3, 1, false, deposit));
        }
    }

    private static void bookRefused() {
        EDGE.sentence("4: NONE: no such COTTAGE");
        for (int cottage : new int[] {-1, 3, 6, 7, LEAST, MOST}) {
            EDGE.none("cottage " + cottage, Years::rich, year -> year.book(cottage, 5, 1, false, 0));
        }
        due("the last one", Years.rich().book(2, 5, 1, false, 0), 9);
        EDGE.sentence("4: NONE: the DAY of its WEEK was opened");
        EDGE.none("it is open", Years::richDay, year -> year.book(2, 2, 1, false, 0));
        due("it is not opened yet", Years.rich().book(2, 2, 1, false, 0), 9);
        due("the next one", Years.richDay().book(0, 3, 1, false, 0), 9);
    }

    private static void bookWeeks() {
        EDGE.sentence("4: a WEEK (not ahead of W), WEEKS 0 .. 51");
        due("W", Years.rich().book(2, 2, 1, false, 0), 9);
        due("the last one", Years.rich().book(2, 51, 1, false, 0), 9);
        due("the first one", one().book(0, 0, 1, false, 0), 0);
        for (int week : new int[] {1, 0, -1, 52, 53, 64, LEAST, MOST}) {
            EDGE.none("week " + week, Years::rich, year -> year.book(2, week, 1, false, 0));
        }
        EDGE.none("week 0 without a stay, W is 1", () -> Years.at(one(), 1), year -> year.book(0, 0, 1, false, 0));
        due("in the last week", Years.at(one(), 51).book(0, 51, 1, false, 0), 0);
        Supplier<CottageYear> lastDay = () -> {
            CottageYear year = Years.at(one(), 51);
            year.openDay();
            return year;
        };
        EDGE.none("on the last day", lastDay, year -> year.book(0, 51, 1, false, 0));
        EDGE.none("behind the last week", lastDay, year -> year.book(0, 52, 1, false, 0));
        EDGE.none("when the year is over", () -> Years.at(one(), 52), year -> year.book(0, 51, 1, false, 0));
        EDGE.none("W when the year is over", () -> Years.at(one(), 52), year -> year.book(0, 52, 1, false, 0));
    }

    private static CottageYear booked() {
        CottageYear year = Years.alike(3);
        year.book(1, 4, 2, false, 3);
        return year;
    }

    private static void bookInForce() {
        EDGE.sentence("4: one in force of a COTTAGE and a WEEK. NONE: one is in force");
        EDGE.none("the same", EdgeCottagesTest::booked, year -> year.book(1, 4, 1, false, 0));
        due("another cottage", booked().book(0, 4, 1, false, 0), 1);
        due("another cottage", booked().book(2, 4, 1, false, 0), 1);
        due("the week ahead", booked().book(1, 3, 1, false, 0), 1);
        due("the week behind", booked().book(1, 5, 1, false, 0), 1);
        CottageYear year = booked();
        year.cancel(0);
        due("it was cancelled", year.book(1, 4, 1, false, 0), 1);
        due("then again one is in force", year.book(1, 4, 1, false, 0), NONE);
        CottageYear left = booked();
        left.shut(1, 4, true);
        left.move(4);
        due("it was moved away", left.book(1, 4, 1, false, 0), 1);
        due("it was moved there", left.book(0, 4, 1, false, 0), NONE);
        CottageYear shut = booked();
        shut.shut(2, 4, true);
        due("a shut one may be booked", shut.book(2, 4, 1, false, 0), 1);
        shut.shut(1, 4, true);
        due("and has one in force all the same", shut.book(1, 4, 1, false, 0), NONE);
    }

    private static CottageYear bookings(int many) {
        CottageYear year = Years.alike(7);
        for (int i = 0; i < many; i++) {
            year.book(i % 7, i / 7, 1, false, 0);
        }
        return year;
    }

    private static void bookMany() {
        EDGE.sentence("4: BOOKINGS (60 at most, numbered as told). NONE: there are 60");
        due("the first", bookings(0).book(0, 40, 1, false, 0), 0);
        due("the second", bookings(1).book(0, 40, 1, false, 0), 1);
        due("the 60th", bookings(59).book(0, 40, 1, false, 0), 59);
        EDGE.none("the 61st", () -> bookings(60), year -> year.book(0, 40, 1, false, 0));
        EDGE.none("the 61st, though one was cancelled", () -> {
            CottageYear year = bookings(60);
            year.cancel(59);
            return year;
        }, year -> year.book(0, 40, 1, false, 0));
        due("there are 60", bookings(60).count(4), 60);
        due("the last one is one", bookings(60).booked(59, 1), 8);
        EDGE.none("no 61st is booked", () -> bookings(60), year -> year.booked(60, 0));
        EDGE.none("no 61st is moved", () -> bookings(60), year -> year.moved(60));
        EDGE.isFalse("no 61st is cancelled", () -> bookings(60), year -> year.cancel(60));
        due("the 60th is cancelled", bookings(60).cancel(59), true);
        CottageYear year = new CottageYear();
        year.cottage(1, true, 1, 10);
        due("a refused one has no number", year.book(0, 0, 2, false, 0), NONE);
        due("so the next is the first", year.book(0, 0, 1, false, 0), 0);
    }

    private static void cancelEdges() {
        EDGE.sentence("5: One of W or later may be cancelled, as long as the DAY of its WEEK was not opened");
        CottageYear year = Years.rich();
        due("of W", year.cancel(4), true);
        due("in force no more", year.booked(4, 6), 0);
        due("one less", year.count(5), 7);
        due("it still is one", year.count(4), 9);
        due("of W + 1, in a shut cottage", year.cancel(7), true);
        due("nothing would be moved then", year.moves(3, 0), 0);
        year.openDay();
        due("no stay", year.booked(4, 7), 0);
        due("no code", year.code(4), NONE);
        CottageYear last = Years.at(one(), 51);
        last.book(0, 51, 1, false, 0);
        due("of the last week", last.cancel(0), true);
        CottageYear opened = Years.richDay();
        due("of W + 1 while a day is open", opened.cancel(7), true);
        CottageYear first = booked();
        due("the first and only one", first.cancel(0), true);
    }

    private static void cancelRefused() {
        EDGE.sentence("5: False: no such one");
        for (int booking : new int[] {-1, 9, 59, 60, LEAST, MOST}) {
            EDGE.isFalse("booking " + booking, Years::rich, year -> year.cancel(booking));
        }
        EDGE.sentence("5: False: not in force");
        EDGE.isFalse("cancelled ahead", Years::rich, year -> year.cancel(8));
        EDGE.isFalse("cancelled now", () -> {
            CottageYear year = Years.rich();
            year.cancel(4);
            return year;
        }, year -> year.cancel(4));
        EDGE.sentence("5: False: the DAY of its WEEK was opened");
        EDGE.isFalse("it is open", Years::richDay, year -> year.cancel(4));
        EDGE.isFalse("it was closed", Years::rich, year -> year.cancel(2));
        EDGE.isFalse("no stay of it came, as it was shut", () -> {
            CottageYear year = Years.alike(1);
            year.book(0, 0, 1, false, 0);
            year.shut(0, 0, true);
            year.openDay();
            return year;
        }, year -> year.cancel(0));
        EDGE.isFalse("the year is over", Years::richOver, year -> year.cancel(4));
    }

    private static void shutWeeks() {
        EDGE.sentence("6: A COTTAGE may be SHUT for a WEEK (W or later, its DAY not opened)");
        due("W", Years.rich().shut(0, 2, true), true);
        due("the last one", Years.rich().shut(0, 51, true), true);
        due("the first one", one().shut(0, 0, true), true);
        due("W + 1 while a day is open", Years.richDay().shut(0, 3, true), true);
        due("in the last week", Years.at(one(), 51).shut(0, 51, true), true);
        for (int week : new int[] {1, 0, -1, 52, 63, 64, 66, LEAST, MOST}) {
            EDGE.isFalse("week " + week, Years::rich, year -> year.shut(0, week, true));
        }
        EDGE.sentence("6: for a WEEK, or not");
        CottageYear year = Years.alike(2);
        year.book(0, 31, 1, false, 0);
        year.book(0, 32, 1, false, 0);
        year.book(0, 33, 1, false, 0);
        year.shut(0, 32, true);
        due("not the week ahead", year.moves(31, 0), 0);
        due("the week", year.moves(32, 0), 1);
        due("not the week behind", year.moves(33, 0), 0);
        due("not the other cottage", year.moved(1), 1);
        due("not week 0, though 32 bits are gone round", year.shut(0, 0, false), false);
        due("not any more", year.shut(0, 32, false), true);
        due("then nothing is moved", year.moves(32, 0), 0);
    }

    private static void shutRefused() {
        EDGE.sentence("6: False: no such ones");
        for (int cottage : new int[] {-1, 3, 6, 7, LEAST, MOST}) {
            EDGE.isFalse("cottage " + cottage, Years::rich, year -> year.shut(cottage, 5, true));
        }
        due("the last one", Years.alike(7).shut(6, 5, true), true);
        EDGE.sentence("6: False: it is so");
        EDGE.isFalse("it is shut", Years::rich, year -> year.shut(2, 3, true));
        EDGE.isFalse("it is not", Years::rich, year -> year.shut(2, 5, false));
        due("it may be shut no more", Years.rich().shut(2, 3, false), true);
        EDGE.sentence("6: False: the DAY was opened");
        EDGE.isFalse("it is open", Years::richDay, year -> year.shut(0, 2, true));
        EDGE.isFalse("it was closed", Years::rich, year -> year.shut(0, 1, true));
        Supplier<CottageYear> shutDay = () -> {
            CottageYear year = Years.at(Years.rich(), 3);
            year.openDay();
            return year;
        };
        EDGE.isFalse("it is open, and was shut", shutDay, year -> year.shut(2, 3, false));
        EDGE.isFalse("the year is over", Years::richOver, year -> year.shut(0, 51, true));
    }

    private static void movesBounds() {
        EDGE.sentence("7: NONE: no such WEEK (W or later, its DAY not opened)");
        for (int week : new int[] {1, 0, -1, 52, 64, LEAST, MOST}) {
            EDGE.none("week " + week, Years::rich, year -> year.moves(week, 0));
        }
        due("W", Years.rich().moves(2, 0), 0);
        due("the last one", Years.rich().moves(51, 0), 0);
        EDGE.none("its day is open", Years::richDay, year -> year.moves(2, 0));
        due("the next one", Years.richDay().moves(3, 0), 1);
        due("in the last week", Years.at(one(), 51).moves(51, 0), 0);
        EDGE.none("the year is over", Years::richOver, year -> year.moves(51, 0));
        EDGE.none("W, and the year is over", Years::richOver, year -> year.moves(52, 0));
        EDGE.sentence("7: NONE: what");
        due("0", Years.rich().moves(3, 0), 1);
        due("1", Years.rich().moves(3, 1), 100);
        for (int what : new int[] {-1, 2, LEAST, MOST}) {
            EDGE.none("what " + what, Years::rich, year -> year.moves(3, what));
        }
        EDGE.sentence("7: asking changes nothing");
        EDGE.refused("how many", Years::rich, year -> year.moves(3, 0), 1);
        EDGE.refused("how far", Years::rich, year -> year.moves(3, 1), 100);
    }

    /** Seven COTTAGES, the first so many let and SHUT in WEEK 0. */
    private static CottageYear shutOnes(int many) {
        CottageYear year = Years.alike(7);
        for (int c = 0; c < many; c++) {
            year.book(c, 0, 1, false, 0);
            year.shut(c, 0, true);
            year.rent(c, 500);
        }
        for (int c = many; c < 7; c++) {
            year.rent(c, 100 + c);
        }
        return year;
    }

    private static void movesFewAndMany() {
        EDGE.sentence("7: how many would be moved, the sum of how far RENTS are");
        int[] moved = {0, 1, 2, 3, 3, 2, 1, 0};
        int[] apart = {0, 1, 2 + 3, 3 + 4 + 5, 4 + 5 + 6, 5 + 6, 6, 0};
        for (int many = 0; many <= 7; many++) {
            due(many + " shut ones", shutOnes(many).moves(0, 0), moved[many]);
            due("how far of " + many, shutOnes(many).moves(0, 1), apart[many]);
            due("moved of " + many, shutOnes(many).move(0), moved[many]);
        }
        CottageYear last = shutOnes(6);
        due("the first by number goes to the only one", last.moved(0), 6);
        due("the second stays", last.moved(1), NONE);
    }

    /** COTTAGE 0 let to three with or without a dog at RENT 100, and SHUT; one other COTTAGE. */
    private static CottageYear oneGoal(boolean dog, int beds, boolean dogs, int rent) {
        CottageYear year = Years.alike(1);
        year.cottage(beds, dogs, rent, 10);
        year.book(0, 0, 3, dog, 0);
        year.shut(0, 0, true);
        return year;
    }

    private static void movesGoals() {
        EDGE.sentence("7: go to COTTAGES with BEDS for their GUESTS");
        due("just as many", oneGoal(false, 3, false, 100).moves(0, 0), 1);
        due("one less", oneGoal(false, 2, false, 100).moves(0, 0), 0);
        EDGE.sentence("7: and DOGS if they have one");
        due("a dog", oneGoal(true, 3, false, 100).moves(0, 0), 0);
        due("a dog where dogs may", oneGoal(true, 3, true, 100).moves(0, 0), 1);
        due("none where dogs may", oneGoal(false, 3, true, 100).moves(0, 0), 1);
        EDGE.sentence("7: to COTTAGES that are not SHUT and have none in force");
        CottageYear shut = oneGoal(false, 3, true, 100);
        shut.shut(1, 0, true);
        due("shut", shut.moves(0, 0), 0);
        CottageYear let = oneGoal(false, 3, true, 100);
        int other = let.book(1, 0, 1, false, 0);
        due("let", let.moves(0, 0), 0);
        let.cancel(other);
        due("let no more", let.moves(0, 0), 1);
        CottageYear later = oneGoal(false, 3, true, 100);
        later.book(1, 1, 1, false, 0);
        later.shut(1, 2, true);
        due("let and shut in other weeks", later.moves(0, 0), 1);
        EDGE.sentence("7: how far the RENT of the one they go to is from PRICE");
        due("just it", oneGoal(false, 3, true, 100).moves(0, 1), 0);
        due("above", oneGoal(false, 3, true, 101).moves(0, 1), 1);
        due("below", oneGoal(false, 3, true, 99).moves(0, 1), 1);
        due("farthest", oneGoal(false, 3, true, 2000).moves(0, 1), 1900);
        CottageYear price = oneGoal(false, 3, true, 100);
        price.rent(0, 1500);
        due("not from the rent of today", price.moves(0, 1), 0);
        EDGE.sentence("7: BOOKINGS in force of COTTAGES that are SHUT then");
        CottageYear cancelled = oneGoal(false, 3, true, 100);
        cancelled.cancel(0);
        due("cancelled", cancelled.moves(0, 0), 0);
        CottageYear open = oneGoal(false, 3, true, 100);
        open.shut(0, 0, false);
        due("not shut", open.moves(0, 0), 0);
    }

    private static void movesOrder() {
        EDGE.sentence("7: the most BOOKINGS moved, of these the least sum");
        CottageYear year = Years.alike(2);
        year.cottage(1, false, 100, 10);
        year.cottage(12, false, 2000, 10);
        year.book(0, 0, 1, false, 0);
        year.book(1, 0, 2, false, 0);
        year.shut(0, 0, true);
        year.shut(1, 0, true);
        due("two, though it is far", year.moves(0, 0), 2);
        due("the least sum of two", year.moves(0, 1), 1900);
        EDGE.sentence("8: the first that differs is moved rather than not, then to the lower COTTAGE");
        CottageYear even = Years.alike(5);
        even.book(2, 0, 1, false, 0);
        even.book(1, 0, 1, false, 0);
        even.book(0, 0, 1, false, 0);
        for (int c = 0; c < 3; c++) {
            even.shut(c, 0, true);
        }
        due("booking 0 to the lowest", even.moved(0), 3);
        due("booking 1 to the next", even.moved(1), 4);
        due("booking 2 not", even.moved(2), NONE);
        even.rent(3, 120);
        even.rent(4, 80);
        due("one above and one below alike far: the lower", even.moved(0), 3);
        even.rent(4, 81);
        even.rent(1, 500);
        due("still both are needed", even.moved(0), 3);
        even.cancel(1);
        even.cancel(2);
        due("alone to the nearer one", even.moved(0), 4);
    }

    private static void movedEdges() {
        EDGE.sentence("8: NONE: no such one");
        for (int booking : new int[] {-1, 9, 59, 60, LEAST, MOST}) {
            EDGE.none("booking " + booking, Years::rich, year -> year.moved(booking));
        }
        EDGE.sentence("8: the COTTAGE that a BOOKING would be moved to");
        EDGE.refused("it only would be", Years::rich, year -> year.moved(7), 0);
        EDGE.sentence("8: NONE: it is not");
        EDGE.none("its cottage is not shut", Years::rich, year -> year.moved(4));
        EDGE.none("it was cancelled", Years::rich, year -> year.moved(8));
        EDGE.none("cancelled, its cottage shut", () -> {
            CottageYear year = Years.rich();
            year.shut(2, 4, true);
            return year;
        }, year -> year.moved(8));
        EDGE.none("no place for it", () -> shutOnes(7), year -> year.moved(0));
        EDGE.none("it was moved already", () -> {
            CottageYear year = Years.rich();
            year.move(3);
            return year;
        }, year -> year.moved(7));
        EDGE.sentence("8: NONE: no such WEEK");
        Supplier<CottageYear> opened = () -> {
            CottageYear year = Years.at(Years.rich(), 3);
            year.openDay();
            return year;
        };
        due("W, its day not opened", Years.at(Years.rich(), 3).moved(7), 0);
        EDGE.none("its day is open", opened, year -> year.moved(7));
        EDGE.none("its day was closed", () -> Years.at(Years.rich(), 4), year -> year.moved(7));
        EDGE.none("the year is over", Years::richOver, year -> year.moved(7));
    }

    private static void moveEdges() {
        EDGE.sentence("9: NONE: no such WEEK");
        for (int week : new int[] {1, 0, -1, 52, 64, LEAST, MOST}) {
            EDGE.none("week " + week, Years::rich, year -> year.move(week));
        }
        Supplier<CottageYear> opened = () -> {
            CottageYear year = Years.at(Years.rich(), 3);
            year.openDay();
            return year;
        };
        EDGE.none("its day is open", opened, year -> year.move(3));
        EDGE.none("its day was closed", () -> Years.at(Years.rich(), 4), year -> year.move(3));
        EDGE.none("the year is over", Years::richOver, year -> year.move(51));
        due("W", Years.at(Years.rich(), 3).move(3), 1);
        due("while the day ahead is open", Years.richDay().move(3), 1);
        EDGE.sentence("9: MOVING: how many were moved");
        EDGE.refused("none in the last week", Years::rich, year -> year.move(51), 0);
        EDGE.refused("none as there is no place", () -> shutOnes(7), year -> year.move(0), 0);
        due("one", Years.rich().move(3), 1);
        due("three", shutOnes(3).move(0), 3);
        EDGE.sentence("9: MOVING does them (PRICE stays)");
        CottageYear year = Years.rich();
        year.move(3);
        due("its cottage", year.booked(7, 0), 0);
        due("its price", year.booked(7, 5), 400);
        due("how often", year.booked(7, 9), 1);
        due("not another one", year.booked(4, 9), 0);
        year.shut(0, 3, true);
        year.shut(2, 3, false);
        due("again", year.move(3), 1);
        due("back", year.booked(7, 0), 2);
        due("how often", year.booked(7, 9), 2);
    }

    private static void moveStaysBehind() {
        EDGE.sentence("9: those that can't be stay where they are (nobody comes there then)");
        CottageYear year = shutOnes(4);
        year.team(12);
        due("three of four", year.move(0), 3);
        due("the fourth stays", year.booked(3, 0), 3);
        due("in force", year.booked(3, 6), 1);
        due("never moved", year.booked(3, 9), 0);
        year.openDay();
        due("no stay", year.booked(3, 7), 0);
        due("the others came", year.booked(0, 7) + year.booked(1, 7) + year.booked(2, 7), 3);
        due("no code", year.code(3), NONE);
        due("linen for three", year.sets(1), 3);
        due("rents of three", year.taken(0, 0), 300);
        year.closeDay();
        due("three jobs", year.openDay(), 3);
        due("none where nobody was", year.job(1, 3, 0), NONE);
        due("where they were", year.job(1, 4, 0), 600);
    }

    private static void bookedBounds() {
        EDGE.sentence("10: NONE for others");
        for (int what : new int[] {-1, 10, 11, LEAST, MOST}) {
            EDGE.none("what " + what, Years::rich, year -> year.booked(0, what));
        }
        for (int booking : new int[] {-1, 9, 59, 60, LEAST, MOST}) {
            EDGE.none("booking " + booking, Years::rich, year -> year.booked(booking, 1));
        }
        due("the last what", Years.rich().booked(0, 9), 0);
        due("the last booking", Years.rich().booked(8, 1), 4);
        EDGE.none("none at all", CottageYear::new, year -> year.booked(0, 0));
    }

    private static void bookedValues() {
        EDGE.sentence("10: Of a BOOKING at its bounds");
        CottageYear year = Years.alike(7);
        year.rent(6, 2000);
        year.rent(0, 1);
        year.book(6, 51, 12, true, 1000);
        year.book(0, 0, 1, false, 0);
        int[] highest = {6, 51, 12, 1, 1000, 2000, 1, 0, 0, 0};
        int[] lowest = {0, 0, 1, 0, 0, 1, 1, 0, 0, 0};
        for (int what = 0; what < 10; what++) {
            due("highest: " + what, year.booked(0, what), highest[what]);
            due("lowest: " + what, year.booked(1, what), lowest[what]);
        }
        EDGE.sentence("10: 7 whether its STAY has begun");
        year.openDay();
        due("as its day is opened", year.booked(1, 7), 1);
        year.closeDay();
        due("behind that, too", year.booked(1, 7), 1);
        due("not the other", year.booked(0, 7), 0);
        due("in force all the time", year.booked(1, 6), 1);
        EDGE.sentence("10: 8 how many COMPLAINTS of it");
        due("none", year.booked(1, 8), 0);
        year.complain(1, 3);
        due("one", year.booked(1, 8), 1);
        year.complain(1, 4);
        due("not a refused one", year.booked(1, 8), 1);
        due("not of the other", year.booked(0, 8), 0);
    }

    private static void takenBounds() {
        EDGE.sentence("11: NONE: no such WEEKS");
        for (int week : new int[] {-1, 52, LEAST, MOST}) {
            EDGE.none("from " + week, Years::rich, year -> year.taken(week, 51));
            EDGE.none("to " + week, Years::rich, year -> year.taken(0, week));
            EDGE.none("from and to " + week, Years::rich, year -> year.taken(week, week));
        }
        due("all weeks", Years.rich().taken(0, 51), 1400);
        EDGE.sentence("11: NONE: the last ahead of the first");
        EDGE.none("by one", Years::rich, year -> year.taken(1, 0));
        EDGE.none("by all", Years::rich, year -> year.taken(51, 0));
        due("just one week", Years.rich().taken(1, 1), 900);
        due("the first week", Years.rich().taken(0, 0), 500);
        due("the last week", Years.rich().taken(51, 51), 0);
    }

    private static void takenWhat() {
        EDGE.sentence("11: the sum of PRICES of STAYS begun in WEEKS from one to another one");
        CottageYear year = Years.alike(2);
        year.book(0, 0, 1, false, 0);
        due("not begun", year.taken(0, 0), 0);
        year.openDay();
        due("as its day is opened", year.taken(0, 0), 100);
        year.closeDay();
        due("closed", year.taken(0, 0), 100);
        due("not of the week behind", year.taken(1, 51), 0);
        year.book(0, 2, 1, false, 0);
        year.book(1, 2, 1, false, 0);
        year.cancel(2);
        year.book(1, 3, 1, false, 0);
        year.shut(1, 3, true);
        year.rent(0, 999);
        year.rent(1, 7);
        Years.at(year, 5);
        due("not the cancelled one", year.taken(2, 2), 100);
        due("not the shut one", year.taken(3, 3), 0);
        due("the first outside", year.taken(1, 1), 0);
        due("both ends count", year.taken(0, 2), 200);
        CottageYear last = Years.alike(1);
        last.book(0, 51, 1, false, 0);
        Years.at(last, 51);
        due("the last week not begun", last.taken(51, 51), 0);
        last.openDay();
        due("the last week", last.taken(51, 51), 100);
        due("it is in the year", last.taken(0, 51), 100);
        due("not in the weeks ahead", last.taken(0, 50), 0);
        CottageYear moved = oneGoal(false, 3, true, 77);
        moved.move(0);
        moved.openDay();
        due("a moved one by its price", moved.taken(0, 0), 100);
    }
}
