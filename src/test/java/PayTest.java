/** Promises 28 to 34. */
public final class PayTest {
    private static final int NONE = CottageYear.NONE;
    private static final int NO_LINE = -1000000;
    private static final Check CHECK = new Check("pay");

    public static void main(String[] args) {
        feed();
        end();
        faultsOfWholeTexts();
        faults();
        terms();
        force();
        pay();
        payLetters();
        lines();
        linesAnew();
        linesOfTwoTeams();
        CHECK.end();
    }

    private static void due(String call, long got, long want) {
        CHECK.due(call, got, want);
    }

    private static void due(String call, boolean got, boolean want) {
        CHECK.due(call, got, want);
    }

    private static void feed() {
        CottageYear year = new CottageYear();
        due("28 no bytes", year.feed(0, 0, 0, 0, 0), 0);
        due("28 the highest first, zeros left out", year.feed(0x31002B32, 0x00000000, 0x2A000000, 0x00000033, -1), 9);
        due("28 a fault shows the order: 1+2*3 and then 255", year.fault(), 5);
        year.end(5);
        due("28 and they are a text", year.fault(), NONE);
        year.end(0);
        for (int i = 1; i <= 6; i++) {
            due("28 twenty more", year.feed(0x31313131, 0x31313131, 0x31313131, 0x31313131, 0x31313131), 20 * i);
        }
        due("28 more than 120", year.feed(0x31000000, 0, 0, 0, 0), NONE);
        due("28 nothing more", year.feed(0, 0, 0, 0, 0), 120);
        year.end(119);
        due("28 just 120", year.feed(0, 0, 0, 0, 0x31), 120);
        year.end(119);
        due("28 not a part of it", year.feed(0, 0, 0, 0, 0x3131), NONE);
        due("44 bytes of the tape", year.count(14), 119);
        for (int i = 0; i < 5; i++) {
            int[] words = new int[5];
            words[i] = 0x01000001;
            due("28 each number counts", year.feed(words[0], words[1], words[2], words[3], words[4]), NONE);
        }
    }

    private static void end() {
        CottageYear year = new CottageYear();
        Check.feed(year, "1+2+3");
        due("29 below", year.end(-1), false);
        due("29 above", year.end(6), false);
        due("29 all", year.end(5), true);
        due("29 three", year.end(3), true);
        due("29 then", year.count(14), 3);
        due("29 four are no more there", year.end(4), false);
        due("30 1+2", year.fault(), NONE);
        due("29 none", year.end(0), true);
        due("29 then", year.count(14), 0);
    }

    private static void dueFault(String text, int want) {
        CottageYear year = new CottageYear();
        Check.tape(year, text);
        due("30 fault of '" + text + "'", year.fault(), want);
    }

    private static void faultsOfWholeTexts() {
        String[] texts = {"1", "0", "0000", "9999", "c", "l", "r", "g", "d", "h", "(1)", "((((((c))))))", "1+2-3*4/5", "c>1?2",
            "c=1&l<2&r>g?d;h", "1;2;3", "(c+1)*(l-2)", " 1 + 2 ", "c > 1 ? 2 ; 3", "( ( 1 ) )", "(1)+(2)", "c+1>2*l&1=1?(3)", "1<2?3;4>5?6"};
        for (String text : texts) {
            dueFault(text, NONE);
        }
    }

    private static void faults() {
        dueFault("", 0);
        dueFault("x", 0);
        dueFault("12345", 4);
        dueFault("1+12345", 6);
        dueFault("1 2", 2);
        dueFault("12 3", 3);
        dueFault("1c", 1);
        dueFault("c1", 1);
        dueFault("cl", 1);
        dueFault("c(", 1);
        dueFault(")", 0);
        dueFault("()", 1);
        dueFault("(1", 2);
        dueFault("(1))", 3);
        dueFault("(((((((1)))))))", 6);
        dueFault("((((((1", 7);
        dueFault("1+", 2);
        dueFault("1++", 2);
        dueFault("+1", 0);
        dueFault("-1", 0);
        dueFault("(-1)", 1);
        dueFault("1*/2", 2);
        dueFault("c>1", 3);
        dueFault("c>", 2);
        dueFault("c>>", 2);
        dueFault("c>1>2", 3);
        dueFault("c>1;", 3);
        dueFault("c>1&", 4);
        dueFault("c>1&l", 5);
        dueFault("c>1&l?", 5);
        dueFault("c>1&l;", 5);
        dueFault("c&", 1);
        dueFault("c?", 1);
        dueFault("c>1?", 4);
        dueFault("c>1?2?", 5);
        dueFault("c>1?2>", 5);
        dueFault("c>1?2&", 5);
        dueFault("c>1?2;", 6);
        dueFault(";", 0);
        dueFault("1;", 2);
        dueFault("1;;", 2);
        dueFault("(c>1)", 2);
        dueFault("(c;1)", 2);
        dueFault("(c?1)", 2);
        dueFault("1\t", 1);
        dueFault("1" + (char) 200, 1);
        dueFault("C", 0);
        dueFault("1.5", 1);
    }

    private static void terms() {
        CottageYear year = new CottageYear();
        due("31 an empty tape", year.terms(0), NONE);
        Check.tape(year, "1+");
        due("31 a fault", year.terms(0), NONE);
        due("31 the tape stays", year.count(14), 2);
        Check.tape(year, "1");
        due("31 no week", year.terms(-1), NONE);
        due("31 no week", year.terms(52), NONE);
        due("31 the tape stays", year.count(14), 1);
        due("31 terms", year.terms(51), 0);
        due("31 the tape is empty", year.count(14), 0);
        due("31 and at fault", year.terms(51), NONE);
        Check.pass(year, 2);
        for (int i = 1; i < 20; i++) {
            Check.tape(year, "1");
            due("31 also from weeks that were", year.terms(0), i);
        }
        Check.tape(year, "1");
        due("31 the 21st", year.terms(0), NONE);
        due("44 terms", year.count(7), 20);
    }

    private static int tell(CottageYear year, String text, int from) {
        Check.tape(year, text);
        return year.terms(from);
    }

    private static void force() {
        CottageYear year = new CottageYear();
        tell(year, "1", 3);
        tell(year, "2", 5);
        tell(year, "3", 3);
        due("32 none", year.force(2, 0), NONE);
        due("32 told last", year.force(3, 0), 2);
        due("32 told last", year.force(4, 0), 2);
        due("32 from the greatest", year.force(5, 0), 1);
        due("32 from the greatest", year.force(51, 0), 1);
        due("32 q behind W", year.force(5, 1), NONE);
        Check.pass(year, 1);
        tell(year, "4", 0);
        tell(year, "5", 5);
        due("32 as known in 0", year.force(2, 0), NONE);
        due("32 as known in 1", year.force(2, 1), 3);
        due("32 as known in 0", year.force(6, 0), 1);
        due("32 as known in 1", year.force(6, 1), 4);
        due("32 a later week ahead of one told later", year.force(3, 1), 2);
        due("32 no week", year.force(-1, 0), NONE);
        due("32 no week", year.force(52, 0), NONE);
        due("32 no q", year.force(3, -1), NONE);
        due("32 no q", year.force(3, 2), NONE);
        Check.pass(year, 51);
        due("32 51 at most", year.force(3, 51), 2);
        due("32 W is none", year.force(3, 52), NONE);
    }

    /** One COTTAGE; its JOB on the DAY of WEEK 1 is READY: c 60 + 3 * 4 + 20, g 4, d 1, h 15, l 42, r 10. */
    private static CottageYear oneJob() {
        CottageYear year = new CottageYear();
        year.cottage(6, true, 100, 60);
        year.cottage(6, true, 100, 60);
        year.team(12);
        year.book(0, 0, 4, true, 0);
        year.book(0, 1, 2, false, 0);
        year.book(1, 1, 2, false, 0);
        Check.pass(year, 1);
        year.openDay();
        year.late(0, 910);
        year.plan();
        year.tick(500);
        year.tick(500);
        year.tick(2);
        return year;
    }

    private static void duePay(CottageYear year, String text, int want) {
        if (year.count(7) >= 20) {
            throw new IllegalStateException("too many terms in one test");
        }
        due("33 pay by '" + text + "'", year.pay(tell(year, text, 0), 1, 0), want);
    }

    private static void pay() {
        CottageYear year = oneJob();
        due("33 no terms", year.pay(0, 1, 0), NONE);
        duePay(year, "7", 7);
        due("33 no such terms", year.pay(-1, 1, 0), NONE);
        due("33 no such terms", year.pay(1, 1, 0), NONE);
        due("33 no job", year.pay(0, 1, 1), NONE);
        due("33 no cottage", year.pay(0, 1, 2), NONE);
        due("33 no week", year.pay(0, 0, 0), NONE);
        due("33 no week", year.pay(0, 52, 0), NONE);
        duePay(year, "1+2*3", 7);
        duePay(year, "(1+2)*3", 9);
        duePay(year, "10-3-2", 5);
        duePay(year, "100/7/2*3", 21);
        duePay(year, "(3-10)/2+10", 7);
        duePay(year, "5/0+1", 1);
        duePay(year, "0-5", 0);
        duePay(year, "9999+2", 10000);
        duePay(year, "9999*9999*9999/9999/9999", 10);
        duePay(year, "(0-9999*9999*9999)/9999/9999+20", 10);
        duePay(year, "1>2?5", 0);
        duePay(year, "1>2?5;2>1?6;7", 6);
        duePay(year, "1<2&2<3&3=4?5;8", 8);
        duePay(year, "1<2&2<3&3=3?5;8", 5);
        duePay(year, " 1 = 1 ? 1 2".substring(0, 10), 1);
        duePay(year, "9999*9999*9999+9999-9999*9999*9999", 0);
        duePay(year, "1<1?3;1>1?4;1=1?5", 5);
        year = oneJob();
        year.closeDay();
        year.openDay();
        tell(year, "1", 0);
        due("33 of a closed day", year.pay(0, 1, 0), 1);
        due("33 not ready", year.pay(0, 2, 0), NONE);
    }

    private static void payLetters() {
        CottageYear year = oneJob();
        duePay(year, "c", 92);
        duePay(year, "l", 42);
        duePay(year, "r", 10);
        duePay(year, "g", 4);
        duePay(year, "d", 1);
        duePay(year, "h", 15);
        duePay(year, "((((((c))))))*2-h", 169);
        duePay(year, "l>41&d=1?c*g", 368);
        duePay(year, "1=((((((2))))))?3;((((((4))))))", 4);
        duePay(year, "2=((((((2))))))?((((((3))))));5", 3);
    }

    private static void dueLine(CottageYear year, int i, int... want) {
        for (int what = 0; what < want.length; what++) {
            due("34 line(" + i + ", " + what + ")", year.line(i, what), want[what]);
        }
    }

    private static void lines() {
        CottageYear year = oneJob();
        tell(year, "c", 1);
        due("34 none yet", year.line(0, 0), NO_LINE);
        due("16 a line", year.closeDay(), 1);
        dueLine(year, 0, 1, 1, 0, 0, 92);
        due("34 what", year.line(0, 5), NO_LINE);
        due("34 what", year.line(0, -1), NO_LINE);
        due("34 without", year.line(1, 0), NO_LINE);
        due("34 without", year.line(-1, 0), NO_LINE);
        due("44 lines", year.count(8), 1);
        due("44 coins", year.count(9), 92);
        year.openDay();
        due("16 nothing has changed", year.closeDay(), 0);
    }

    private static void linesAnew() {
        CottageYear year = oneJob();
        tell(year, "c", 2);
        due("16 not from week 1 on", year.closeDay(), 0);
        tell(year, "c-2", 0);
        year.openDay();
        due("16 told late", year.closeDay(), 1);
        dueLine(year, 0, 2, 1, 0, 0, 90);
        tell(year, "50", 1);
        tell(year, "40", 0);
        year.openDay();
        due("16 told anew", year.closeDay(), 1);
        dueLine(year, 1, 3, 1, 0, 0, -40);
        due("24 booked", year.job(1, 0, 9), 50);
        due("44 coins", year.count(9), 50);
        tell(year, "0", 1);
        year.openDay();
        year.closeDay();
        dueLine(year, 2, 4, 1, 0, 0, -50);
        due("44 coins", year.count(9), 0);
    }

    private static void linesOfTwoTeams() {
        CottageYear year = Check.threeCottages();
        year.team(12);
        year.team(12);
        for (int week = 0; week < 2; week++) {
            year.book(2, week, 1, false, 0);
            year.book(0, week, 1, false, 0);
        }
        Check.pass(year, 1);
        for (int week = 1; week < 3; week++) {
            year.openDay();
            year.late(0, 850);
            year.state(0, 110);
            year.late(2, 850);
            year.state(2, 110);
            year.plan();
            year.tick(500);
            year.tick(500);
            if (week == 2) {
                tell(year, "r+g", 0);
            }
            due("16 of all days", year.closeDay(), week == 1 ? 0 : 3);
        }
        dueLine(year, 0, 2, 1, 0, 0, 11);
        dueLine(year, 1, 2, 1, 2, 1, 11);
        dueLine(year, 2, 2, 2, 0, 0, 11);
        due("44 the third is ready later than the day went", year.count(12), 1);
    }
}
