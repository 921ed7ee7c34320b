/** Promises 1 to 11. */
public final class CottagesTest {
    private static final int NONE = CottageYear.NONE;
    private static final Check CHECK = new Check("cottages");

    public static void main(String[] args) {
        newObject();
        cottage();
        rent();
        book();
        bookAtMost();
        cancel();
        shut();
        moves();
        movesPreferences();
        moved();
        move();
        booked();
        taken();
        CHECK.end();
    }

    private static void due(String call, long got, long want) {
        CHECK.due(call, got, want);
    }

    private static void due(String call, boolean got, boolean want) {
        CHECK.due(call, got, want);
    }

    private static void newObject() {
        CottageYear year = new CottageYear();
        int[] first = {0, 0, NONE, 0, 0, 0, 0, 0, 0, 0, 0, 0, 0, 0, 0};
        for (int what = 0; what < first.length; what++) {
            due("1 count(" + what + ")", year.count(what), first[what]);
        }
        due("1 sets(0)", year.sets(0), 20);
        due("1 sets(4)", year.sets(4), 0);
    }

    private static void cottage() {
        CottageYear year = new CottageYear();
        due("2 lowest", year.cottage(1, false, 1, 10), 0);
        due("2 highest", year.cottage(12, true, 2000, 240), 1);
        due("2 no beds", year.cottage(0, true, 1, 10), NONE);
        due("2 too many beds", year.cottage(13, true, 1, 10), NONE);
        due("2 no rent", year.cottage(1, true, 0, 10), NONE);
        due("2 too much rent", year.cottage(1, true, 2001, 10), NONE);
        due("2 few minutes", year.cottage(1, true, 1, 9), NONE);
        due("2 many minutes", year.cottage(1, true, 1, 241), NONE);
        year.openDay();
        due("2 a day is open", year.cottage(1, true, 1, 10), NONE);
        due("2 count", year.count(3), 2);
        year.closeDay();
        for (int i = 2; i < 7; i++) {
            due("2 number", year.cottage(1, true, 1, 10), i);
        }
        due("2 the eighth", year.cottage(1, true, 1, 10), NONE);
    }

    private static void rent() {
        CottageYear year = Check.threeCottages();
        year.book(0, 0, 1, false, 0);
        due("3 rent", year.rent(0, 350), true);
        due("3 of a booking before", year.booked(0, 5), 300);
        due("3 of a booking behind", year.booked(year.book(0, 1, 1, false, 0), 5), 350);
        due("3 lowest", year.rent(0, 1), true);
        due("3 highest", year.rent(0, 2000), true);
        due("3 below", year.rent(0, 0), false);
        due("3 above", year.rent(0, 2001), false);
        due("3 no such", year.rent(3, 100), false);
        due("3 no such", year.rent(-1, 100), false);
        year.openDay();
        due("3 while a day is open", year.rent(1, 77), true);
        due("3 then", year.booked(year.book(1, 1, 1, false, 0), 5), 77);
    }

    private static void book() {
        CottageYear year = Check.threeCottages();
        due("4 first", year.book(0, 0, 4, true, 0), 0);
        due("4 last week", year.book(2, 51, 6, false, 1000), 1);
        due("4 no cottage", year.book(3, 0, 1, false, 0), NONE);
        due("4 no cottage", year.book(-1, 0, 1, false, 0), NONE);
        due("4 no week", year.book(1, 52, 1, false, 0), NONE);
        due("4 no week", year.book(1, -1, 1, false, 0), NONE);
        due("4 no guests", year.book(1, 0, 0, false, 0), NONE);
        due("4 too many guests", year.book(1, 0, 3, false, 0), NONE);
        due("4 no dogs there", year.book(1, 0, 2, true, 0), NONE);
        due("4 deposit below", year.book(1, 0, 2, false, -1), NONE);
        due("4 deposit above", year.book(1, 0, 2, false, 1001), NONE);
        due("4 one is in force", year.book(0, 0, 1, false, 0), NONE);
        year.cancel(0);
        due("4 not in force any more", year.book(0, 0, 1, false, 0), 2);
        year.shut(1, 0, true);
        due("4 a shut one", year.book(1, 0, 1, false, 0), 3);
        year.openDay();
        due("4 its day was opened", year.book(2, 0, 1, false, 0), NONE);
        due("4 the week behind", year.book(2, 1, 1, false, 0), 4);
        year.closeDay();
        due("4 a week ahead of W", year.book(2, 0, 1, false, 0), NONE);
        due("4 refused ones are none", year.count(4), 5);
        due("4 in force", year.count(5), 4);
    }

    private static void bookAtMost() {
        CottageYear year = Check.threeCottages();
        for (int i = 0; i < 60; i++) {
            due("4 many", year.book(i % 3, i / 3, 1, false, 0), i);
        }
        due("4 the 61st", year.book(0, 30, 1, false, 0), NONE);
        year.cancel(0);
        due("4 cancelled ones count", year.book(0, 30, 1, false, 0), NONE);
        due("4 count", year.count(4), 60);
    }

    private static void cancel() {
        CottageYear year = Check.threeCottages();
        year.book(0, 0, 1, false, 0);
        year.book(1, 0, 1, false, 0);
        year.book(0, 1, 1, false, 0);
        due("5 cancel", year.cancel(0), true);
        due("5 not in force", year.booked(0, 6), 0);
        due("5 again", year.cancel(0), false);
        due("5 no such", year.cancel(3), false);
        due("5 no such", year.cancel(-1), false);
        year.openDay();
        due("5 its day was opened", year.cancel(1), false);
        due("5 its day was not", year.cancel(2), true);
        year.closeDay();
        due("5 its day was closed", year.cancel(1), false);
        due("5 it stays in force", year.booked(1, 6), 1);
    }

    private static void shut() {
        CottageYear year = Check.threeCottages();
        due("6 it is open", year.shut(0, 0, false), false);
        due("6 shut", year.shut(0, 0, true), true);
        due("6 it is shut", year.shut(0, 0, true), false);
        due("6 another week", year.shut(0, 51, true), true);
        due("6 open again", year.shut(0, 51, false), true);
        due("6 no cottage", year.shut(3, 0, true), false);
        due("6 no week", year.shut(0, 52, true), false);
        due("6 no week", year.shut(0, -1, true), false);
        year.book(0, 0, 1, false, 0);
        year.openDay();
        due("6 nobody comes", year.booked(0, 7), 0);
        due("6 the day was opened", year.shut(1, 0, true), false);
        year.closeDay();
        due("6 the day was closed", year.shut(1, 0, true), false);
        due("6 W", year.shut(1, 1, true), true);
    }

    private static void moves() {
        CottageYear year = Check.threeCottages();
        year.book(0, 1, 4, false, 80);
        due("7 none is shut", year.moves(1, 0), 0);
        year.shut(0, 1, true);
        due("7 how many", year.moves(1, 0), 1);
        due("7 how far", year.moves(1, 1), 100);
        due("7 what", year.moves(1, 2), NONE);
        due("7 what", year.moves(1, -1), NONE);
        due("7 no week", year.moves(52, 0), NONE);
        due("7 no week", year.moves(-1, 0), NONE);
        year.rent(2, 310);
        due("7 by the rent now", year.moves(1, 1), 10);
        year.shut(2, 1, true);
        due("7 the other one is shut", year.moves(1, 0), 0);
        year.shut(2, 1, false);
        year.book(2, 1, 1, false, 0);
        due("7 the other one is let", year.moves(1, 0), 0);
        year.openDay();
        due("7 its day was opened", year.moves(0, 0), NONE);
        year.closeDay();
        due("7 ahead of W", year.moves(0, 0), NONE);
        due("7 W", year.moves(1, 0), 0);
    }

    private static void movesPreferences() {
        CottageYear year = new CottageYear();
        year.cottage(4, true, 100, 10);
        year.cottage(4, true, 100, 10);
        year.cottage(4, true, 150, 10);
        year.cottage(4, false, 160, 10);
        year.cottage(2, true, 90, 10);
        year.book(1, 0, 3, false, 0);
        year.book(0, 0, 2, true, 0);
        year.shut(0, 0, true);
        year.shut(1, 0, true);
        due("7 both", year.moves(0, 0), 2);
        due("7 the least sum", year.moves(0, 1), 60);
        due("8 the guests of the second", year.moved(0), 2);
        due("8 the dog", year.moved(1), 4);
        year.rent(4, 1000);
        due("7 the most moved, though far", year.moves(0, 1), 60 + 50);
        due("8 not to 2, which the dog needs", year.moved(0), 3);
        due("8 the dog", year.moved(1), 2);
        year.shut(3, 0, true);
        year.shut(4, 0, true);
        due("7 one only", year.moves(0, 0), 1);
        due("8 the first by number", year.moved(0), 2);
        due("8 not the second", year.moved(1), NONE);
        year.shut(3, 0, false);
        year.rent(2, 50);
        year.rent(3, 150);
        year.cancel(1);
        due("8 alike far: the lower cottage", year.moved(0), 2);
        due("8 a cancelled one", year.moved(1), NONE);
        year.rent(2, 49);
        due("8 nearer", year.moved(0), 3);
    }

    private static void moved() {
        CottageYear year = Check.threeCottages();
        year.book(0, 0, 1, false, 0);
        year.book(0, 1, 1, false, 0);
        year.shut(0, 0, true);
        due("8 alike far: the lower one", year.moved(0), 1);
        due("8 not shut then", year.moved(1), NONE);
        due("8 no such", year.moved(2), NONE);
        due("8 no such", year.moved(-1), NONE);
        due("8 it only would be", year.booked(0, 0), 0);
        year.openDay();
        due("8 its day was opened", year.moved(0), NONE);
    }

    private static void move() {
        CottageYear year = Check.threeCottages();
        year.book(0, 0, 4, false, 0);
        year.book(1, 0, 1, false, 0);
        year.shut(0, 0, true);
        year.shut(1, 0, true);
        due("9 no week", year.move(52), NONE);
        due("9 no week", year.move(-1), NONE);
        due("9 one place for two: the nearer one goes", year.moved(0), 2);
        due("9 move", year.move(0), 1);
        due("9 where it is", year.booked(0, 0), 2);
        due("9 price stays", year.booked(0, 5), 300);
        due("9 how often", year.booked(0, 9), 1);
        due("9 the other one stays", year.booked(1, 0), 1);
        due("9 the other one was not moved", year.booked(1, 9), 0);
        due("9 nothing more", year.move(0), 0);
        due("9 a week without", year.move(51), 0);
        year.shut(2, 0, true);
        year.shut(0, 0, false);
        due("9 back", year.move(0), 1);
        due("9 how often", year.booked(0, 9) + year.booked(1, 9), 2);
        year.openDay();
        due("9 its day was opened", year.move(0), NONE);
    }

    private static void booked() {
        CottageYear year = Check.threeCottages();
        year.book(2, 0, 5, true, 123);
        year.book(1, 1, 2, false, 0);
        int[] want = {2, 0, 5, 1, 123, 400, 1, 0, 0, 0};
        for (int what = 0; what < want.length; what++) {
            due("10 booked(0, " + what + ")", year.booked(0, what), want[what]);
        }
        due("10 no dog", year.booked(1, 3), 0);
        due("10 what", year.booked(0, 10), NONE);
        due("10 what", year.booked(0, -1), NONE);
        due("10 no such", year.booked(2, 0), NONE);
        due("10 no such", year.booked(-1, 0), NONE);
        year.openDay();
        due("10 has begun", year.booked(0, 7), 1);
        due("10 not the other", year.booked(1, 7), 0);
        year.complain(0, 3);
        year.complain(0, 2);
        due("10 complaints", year.booked(0, 8), 2);
    }

    private static void taken() {
        CottageYear year = Check.threeCottages();
        year.book(0, 0, 1, false, 0);
        year.book(1, 0, 1, false, 0);
        year.book(0, 1, 1, false, 0);
        year.book(2, 1, 1, false, 0);
        year.book(0, 2, 1, false, 0);
        year.shut(2, 1, true);
        due("11 none has begun", year.taken(0, 51), 0);
        year.openDay();
        due("11 those of the open day", year.taken(0, 0), 500);
        year.closeDay();
        Check.pass(year, 1);
        due("11 not the shut one", year.taken(1, 1), 300);
        due("11 both weeks", year.taken(0, 1), 800);
        due("11 not begun", year.taken(2, 51), 0);
        due("11 the last ahead of the first", year.taken(1, 0), NONE);
        due("11 no week", year.taken(-1, 0), NONE);
        due("11 no week", year.taken(0, 52), NONE);
    }
}
