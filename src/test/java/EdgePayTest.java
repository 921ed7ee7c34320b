import java.util.function.Supplier;

/** Promises 28 to 34 at their edges, sentence by sentence. */
public final class EdgePayTest {
    private static final int NONE = CottageYear.NONE;
    private static final int NO_LINE = -1000000;
    private static final int LEAST = Integer.MIN_VALUE;
    private static final int MOST = Integer.MAX_VALUE;
    private static final Edge EDGE = new Edge("edges of 28 to 34");

    public static void main(String[] args) {
        feedBytes();
        feedMany();
        endEdges();
        faultOfFirstBytes();
        faultOfNextBytes();
        faultOfClauses();
        faultOfTests();
        faultOfSums();
        faultOfNumbers();
        faultOfBrackets();
        faultOfBlanks();
        faultOfLongTexts();
        faultAnew();
        termsRefused();
        termsMany();
        forceWeeks();
        forceOrder();
        payRefused();
        payBounds();
        paySigns();
        payClauses();
        payLetters();
        lineEdges();
        linesOfWhichJobs();
        linesOfWhichTerms();
        linesInOrder();
        EDGE.end();
    }

    private static void due(String what, long got, long want) {
        EDGE.due(what, got, want);
    }

    private static void due(String what, boolean got, boolean want) {
        EDGE.due(what, got, want);
    }

    private static CottageYear tape(String text) {
        CottageYear year = new CottageYear();
        Check.tape(year, text);
        return year;
    }

    private static void feedBytes() {
        EDGE.sentence("28: Twenty bytes more (of each number the highest first; bytes of 0 are left out)");
        due("none", new CottageYear().feed(0, 0, 0, 0, 0), 0);
        for (int i = 0; i < 4; i++) {
            due("one byte at " + i, new CottageYear().feed('7' << 8 * i, 0, 0, 0, 0), 1);
            due("three bytes but at " + i, new CottageYear().feed(0, 0, 0, 0, ~(255 << 8 * i)), 3);
        }
        due("four below zero", new CottageYear().feed(-1, 0, 0, 0, 0), 4);
        due("one below zero", new CottageYear().feed(LEAST, 0, 0, 0, 0), 1);
        due("twenty", new CottageYear().feed(-1, -1, -1, -1, -1), 20);
        CottageYear year = new CottageYear();
        year.feed('1', '+' << 24, '2' << 16, '*' << 8, '3');
        due("five with zeros between them", year.count(14), 5);
        due("they are a text", year.fault(), NONE);
        year.end(2);
        due("1+", year.fault(), 2);
        CottageYear order = new CottageYear();
        order.feed('1' << 24 | '2' << 16 | '3' << 8 | '4', '5' << 24, 0, 0, 0);
        due("four digits, then the fifth", order.fault(), 4);
        order.end(0);
        order.feed('(' << 24 | 'c' << 16 | ')' << 8 | ';', 'x', 0, 0, 0);
        due("highest first", order.fault(), 4);
        order.end(3);
        due("highest first", order.fault(), NONE);
    }

    private static CottageYear bytes(int many) {
        CottageYear year = new CottageYear();
        StringBuilder text = new StringBuilder();
        for (int i = 0; i < many; i++) {
            text.append(i % 2 == 0 ? '1' : '+');
        }
        Check.tape(year, text.toString());
        return year;
    }

    private static void feedMany() {
        EDGE.sentence("28: how many it has. NONE: more than 120");
        due("one", bytes(0).feed('1', 0, 0, 0, 0), 1);
        due("100 and 20", bytes(100).feed(-1, -1, -1, -1, -1), 120);
        due("119 and 1", bytes(119).feed(0, 0, 0, 0, '+'), 120);
        due("120 and none", bytes(120).feed(0, 0, 0, 0, 0), 120);
        EDGE.none("101 and 20", () -> bytes(101), year -> year.feed(-1, -1, -1, -1, -1));
        EDGE.none("119 and 2", () -> bytes(119), year -> year.feed('c', 0, 0, 0, 'c'));
        EDGE.none("120 and 1", () -> bytes(120), year -> year.feed('c', 0, 0, 0, 0));
        EDGE.none("120 and 20", () -> bytes(120), year -> year.feed(-1, -1, -1, -1, -1));
        for (int i = 0; i < 5; i++) {
            int at = i;
            EDGE.none("117 and four of number " + i, () -> bytes(117),
                year -> year.feed(at == 0 ? -1 : 0, at == 1 ? -1 : 0, at == 2 ? -1 : 0, at == 3 ? -1 : 0, at == 4 ? -1 : 0));
        }
        for (int one : new int[] {1, 8, 49, 128, 255}) {
            for (int i = 0; i < 20; i++) {
                due("119 and one of twenty: byte " + one + " at " + i, feedOne(bytes(119), one, i), 120);
                due("120 and one of twenty: byte " + one + " at " + i, feedOne(bytes(120), one, i), NONE);
            }
        }
        due("while a day is open", Years.richDay().feed('1', 0, 0, 0, 0), 4);
        due("when the year is over", Years.richOver().feed('1', 0, 0, 0, 0), 4);
    }

    /** Feeds twenty bytes, all 0 but one at a place. */
    private static int feedOne(CottageYear year, int one, int place) {
        int[] words = new int[5];
        words[place / 4] = one << 8 * (3 - place % 4);
        return year.feed(words[0], words[1], words[2], words[3], words[4]);
    }

    private static void endEdges() {
        EDGE.sentence("29: The TAPE has its first n bytes alone. False: n");
        for (int n : new int[] {-1, 4, 121, LEAST, MOST}) {
            EDGE.isFalse("n " + n + " of 3", Years::rich, year -> year.end(n));
        }
        EDGE.isFalse("121 of 120", () -> bytes(120), year -> year.end(121));
        EDGE.isFalse("1 of none", CottageYear::new, year -> year.end(1));
        EDGE.refused("0 of none", CottageYear::new, year -> year.end(0) ? 1 : 0, 1);
        EDGE.refused("all of them", Years::rich, year -> year.end(3) ? 1 : 0, 1);
        due("120 of 120", bytes(120).end(120), true);
        CottageYear year = bytes(120);
        due("119 of 120", year.end(119), true);
        due("it has 119", year.count(14), 119);
        due("1 + 1 .. + 1", year.fault(), NONE);
        due("the last one is gone", year.end(120), false);
        due("0 of 119", year.end(0), true);
        due("it has none", year.count(14), 0);
        due("then others come", year.feed('c', 0, 0, 0, 0), 1);
        due("the ones ahead are gone", year.fault(), NONE);
        due("1234 but two digits", payByFirst("1234", 2), 12);
        due("5+7 but the sum", payByFirst("5+7", 1), 5);
        due("5;7 but the clause behind", payByFirst("1=2?5;7", 5), 0);
        due("5 and blanks, but the sum behind them", payByFirst("5   *2", 2), 5);
    }

    /** What the first n bytes of a TEXT pay. */
    private static int payByFirst(String text, int n) {
        CottageYear year = oneReady();
        Check.tape(year, text);
        year.end(n);
        year.terms(0);
        return year.pay(0, 1, 0);
    }

    private static void dueFault(String text, int want) {
        due("fault of '" + text + "'", tape(text).fault(), want);
    }

    /** What each byte alone is at fault with: an ATOM is whole, a blank or ( may begin a TEXT, no other may. */
    private static void faultOfFirstBytes() {
        EDGE.sentence("30: the first byte at which no TEXT can go on");
        for (int one = 1; one < 256; one++) {
            char sign = (char) one;
            int want = "0123456789clrgdh".indexOf(sign) >= 0 ? NONE : sign == ' ' || sign == '(' ? 1 : 0;
            due("byte " + one, tape(String.valueOf(sign)).fault(), want);
            due("behind +: byte " + one, tape("1+" + sign).fault(), want == NONE ? NONE : want + 2);
            due("behind (: byte " + one, tape("(" + sign).fault(), want == NONE ? 2 : want + 1);
        }
    }

    /** What each byte behind an ATOM is at fault with. */
    private static void faultOfNextBytes() {
        EDGE.sentence("30: (the length, if it ends too early)");
        for (int one = 1; one < 256; one++) {
            char sign = (char) one;
            int behind = sign == ' ' ? NONE : "+-*/=<>;".indexOf(sign) >= 0 ? 2 : 1;
            due("behind c: byte " + one, tape("c" + sign).fault(), behind);
            boolean digit = sign >= '0' && sign <= '9';
            due("behind 1: byte " + one, tape("1" + sign).fault(), digit ? NONE : behind);
            int inside = "+-*/)".indexOf(sign) >= 0 || sign == ' ' ? 3 : 2;
            due("behind (c: byte " + one, tape("(c" + sign).fault(), sign == ')' ? NONE : inside);
            int compared = "+-*/&?".indexOf(sign) >= 0 || sign == ' ' ? 4 : 3;
            due("behind c>l: byte " + one, tape("c>l" + sign).fault(), compared);
            int second = "+-*/=<>".indexOf(sign) >= 0 || sign == ' ' ? 6 : 5;
            due("behind c>l&g: byte " + one, tape("c>l&g" + sign).fault(), second);
            int paid = sign == ' ' ? NONE : "+-*/;".indexOf(sign) >= 0 ? 6 : 5;
            due("behind c>l?g: byte " + one, tape("c>l?g" + sign).fault(), paid);
        }
    }

    private static void faultOfClauses() {
        EDGE.sentence("30: CLAUSES with ; between, one at least");
        dueFault("", 0);
        dueFault("c", NONE);
        dueFault(";", 0);
        dueFault("c;", 2);
        dueFault(";c", 0);
        dueFault("c;;c", 2);
        dueFault("c;l", NONE);
        dueFault("c;l;r;g;d;h", NONE);
        dueFault("c>1?2;l<3?4;5", NONE);
        dueFault("c;l>1?2", NONE);
        dueFault("c;l>1", 5);
        EDGE.sentence("30: perhaps TESTS and ?, then SUM");
        dueFault("c>1", 3);
        dueFault("c>1?", 4);
        dueFault("c>1?2", NONE);
        dueFault("?2", 0);
        dueFault("c?2", 1);
        dueFault("c>1?2?3", 5);
        dueFault("c>1?l>2?3", 5);
    }

    private static void faultOfTests() {
        EDGE.sentence("30: TESTS: one or more with & between");
        dueFault("c>1?2", NONE);
        dueFault("c>1&l<2?3", NONE);
        dueFault("c>1&l<2&r=3?4", NONE);
        dueFault("c>1&", 4);
        dueFault("c>1&?2", 4);
        dueFault("c>1&&l<2?3", 4);
        dueFault("&c>1?2", 0);
        dueFault("c&l>1?2", 1);
        EDGE.sentence("30: SUM, one of = < >, SUM");
        dueFault("c=1?2", NONE);
        dueFault("c<1?2", NONE);
        dueFault("c+1>l*2?2", NONE);
        dueFault(">1?2", 0);
        dueFault("c>?2", 2);
        dueFault("c>=1?2", 2);
        dueFault("c<>1?2", 2);
        dueFault("c>1>2?3", 3);
        dueFault("(c>1)?2", 2);
        dueFault("c>1&l?2", 5);
    }

    private static void faultOfSums() {
        EDGE.sentence("30: SUM: PRODUCTS with + or - between; PRODUCT: ATOMS with * or / between");
        for (String sign : new String[] {"+", "-", "*", "/"}) {
            dueFault("c" + sign + "l", NONE);
            dueFault("c" + sign, 2);
            dueFault(sign + "c", 0);
            dueFault("c" + sign + sign + "l", 2);
            dueFault("c" + sign + "?", 2);
            dueFault("c" + sign + ";", 2);
            dueFault("c" + sign + ")", 2);
        }
        dueFault("c-l+r*g/d", NONE);
        EDGE.sentence("30: a letter");
        for (String letter : new String[] {"c", "l", "r", "g", "d", "h"}) {
            dueFault(letter, NONE);
            dueFault(letter.toUpperCase(), 0);
            dueFault(letter + letter, 1);
            dueFault(letter + "1", 1);
            dueFault("1" + letter, 1);
            dueFault(letter + "(1)", 1);
        }
    }

    private static void faultOfNumbers() {
        EDGE.sentence("30: a number (1 to 4 digits); a fifth digit is such");
        dueFault("0", NONE);
        dueFault("12", NONE);
        dueFault("123", NONE);
        dueFault("1234", NONE);
        dueFault("12345", 4);
        dueFault("00000", 4);
        dueFault("123456", 4);
        dueFault("1234+1234", NONE);
        dueFault("1234+12345", 9);
        dueFault("(1234)", NONE);
        dueFault("(12345)", 5);
        dueFault("c>1234?1234", NONE);
        dueFault("c>12345?1", 6);
    }

    private static void faultOfBrackets() {
        EDGE.sentence("30: at most six ( within one another; a seventh ( is such");
        dueFault("(((((1)))))", NONE);
        dueFault("((((((1))))))", NONE);
        dueFault("(((((((1)))))))", 6);
        dueFault("((((((", 6);
        dueFault("(((((((", 6);
        dueFault("((((((1))))))+((((((1))))))", NONE);
        dueFault("((((((1)))))+(1))", NONE);
        dueFault("((((((1)))))+(((((1))))))", NONE);
        dueFault("((((((1)))))+((((((1", 18);
        dueFault("c+((((((1))))))", NONE);
        dueFault("c+(((((((1", 8);
        dueFault("((((((c))))))>((((((1))))))?((((((2))))));((((((3))))))", NONE);
        EDGE.sentence("30: ( SUM )");
        dueFault("()", 1);
        dueFault("(c", 2);
        dueFault("(c))", 3);
        dueFault(")", 0);
        dueFault("c)", 1);
        dueFault("(c)", NONE);
        dueFault("(c+l)", NONE);
        dueFault("(c+)", 3);
        dueFault("(c)(l)", 3);
        dueFault("(c)l", 3);
        dueFault("(c)1", 3);
        dueFault("(c;l)", 2);
        dueFault("(c?l)", 2);
        dueFault("(c&l)", 2);
        dueFault("c>(1", 4);
        dueFault("c>(1?2", 4);
    }

    private static void faultOfBlanks() {
        EDGE.sentence("30: Blanks (32) may stand between all these, not within numbers");
        dueFault("c > 1 & l < 2 ? ( r + 3 ) * 4 ; 5 - 6 / 7", NONE);
        dueFault("c   +   1", NONE);
        dueFault("1 2", 2);
        dueFault("12  34", 4);
        dueFault("1234 5", 5);
        dueFault("c 1", 2);
        dueFault("1 c", 2);
        dueFault("c l", 2);
        dueFault("c + ", 4);
        dueFault("( ", 2);
        dueFault("( )", 2);
        dueFault("c > = 1", 4);
        dueFault("c\t+1", 1);
        dueFault("c\n", 1);
        dueFault("c" + (char) 160 + "+1", 1);
    }

    private static void faultOfLongTexts() {
        EDGE.sentence("30: The FAULT of the TAPE; NONE (up to 120 bytes)");
        due("119", bytes(119).fault(), NONE);
        due("120 end too early", bytes(120).fault(), 120);
        due("118 end too early", bytes(118).fault(), 118);
        CottageYear year = bytes(119);
        year.feed('x', 0, 0, 0, 0);
        due("the last byte", year.fault(), 119);
        year.end(119);
        year.feed('9', 0, 0, 0, 0);
        due("120", year.fault(), NONE);
        EDGE.refused("asking changes nothing", () -> bytes(120), CottageYear::fault, 120);
        due("when the year is over", Years.richOver().fault(), NONE);
    }

    /** Nothing of the TEXT asked about ahead stays: no ( that is open, no digits, no half a CLAUSE. */
    private static void faultAnew() {
        EDGE.sentence("30: The FAULT of the TAPE as it is now");
        String[] texts = {"", "c", "(c", "((((((", "12", "1234", "12345", "c+", "c>1", "c>1&", "c>1?", "c>1?2", "c;", " ", "c ", "x", "(1)"};
        int[] faults = {0, NONE, 2, 6, NONE, NONE, 4, 2, 3, 4, 4, NONE, 2, 1, NONE, 0, NONE};
        for (int one = 0; one < texts.length; one++) {
            for (int other = 0; other < texts.length; other++) {
                CottageYear of = tape(texts[one]);
                due("fault of '" + texts[one] + "'", of.fault(), faults[one]);
                due("asked again", of.fault(), faults[one]);
                Check.tape(of, texts[other]);
                due("fault of '" + texts[other] + "' behind that", of.fault(), faults[other]);
            }
        }
    }

    private static void termsRefused() {
        EDGE.sentence("31: NONE: a FAULT");
        EDGE.none("ends too early", () -> taped("c+"), year -> year.terms(0));
        EDGE.none("a wrong byte", () -> taped("c+x"), year -> year.terms(0));
        EDGE.none("an empty one", () -> taped(""), year -> year.terms(0));
        EDGE.sentence("31: NONE: no such WEEK");
        for (int from : new int[] {-1, 52, 53, LEAST, MOST}) {
            EDGE.none("from " + from, Years::rich, year -> year.terms(from));
        }
        due("from 0", Years.rich().terms(0), 2);
        due("from 51", Years.rich().terms(51), 2);
        due("from a week that was", Years.rich().terms(1), 2);
        due("while a day is open", Years.richDay().terms(2), 2);
        EDGE.sentence("31: NONE: the year is over");
        EDGE.none("W is 52", Years::richOver, year -> year.terms(0));
        EDGE.none("W is 52", Years::richOver, year -> year.terms(51));
        due("in the last week", Years.at(Years.rich(), 51).terms(51), 2);
        EDGE.sentence("31: The TAPE (empty then)");
        CottageYear year = Years.rich();
        year.terms(0);
        due("it has no bytes", year.count(14), 0);
        due("so it is at fault", year.fault(), 0);
        due("and there is nothing to end", year.end(1), false);
    }

    private static CottageYear taped(String text) {
        CottageYear year = Years.rich();
        Check.tape(year, text);
        return year;
    }

    private static CottageYear manyTerms(int many) {
        CottageYear year = new CottageYear();
        for (int i = 0; i < many; i++) {
            Check.tape(year, "1");
            year.terms(i % 3);
        }
        Check.tape(year, "1");
        return year;
    }

    private static void termsMany() {
        EDGE.sentence("31: TERMS (20 at most): their number. NONE: there are 20");
        for (int many : new int[] {0, 1, 2, 19}) {
            due("there are " + many, manyTerms(many).count(7), many);
            due("one more", manyTerms(many).terms(0), many);
        }
        due("there are 20", manyTerms(20).count(7), 20);
        EDGE.none("the 21st", () -> manyTerms(20), year -> year.terms(0));
        due("the last one is in force", manyTerms(20).force(1, 0), 19);
    }

    private static CottageYear tell(CottageYear year, String text, int from) {
        Check.tape(year, text);
        year.terms(from);
        return year;
    }

    private static void forceWeeks() {
        EDGE.sentence("32: for a WEEK. NONE: no such WEEKS");
        for (int week : new int[] {-1, 52, 53, LEAST, MOST}) {
            EDGE.none("week " + week, Years::rich, year -> year.force(week, 0));
        }
        due("0", Years.rich().force(0, 0), 0);
        due("51", Years.rich().force(51, 0), 0);
        EDGE.sentence("32: as known in WEEK q (0 .. W, 51 at most)");
        for (int q : new int[] {-1, 3, 51, 52, LEAST, MOST}) {
            EDGE.none("q " + q + ", W is 2", Years::rich, year -> year.force(0, q));
        }
        due("W", Years.rich().force(1, 2), 1);
        due("W while its day is open", Years.richDay().force(1, 2), 1);
        EDGE.none("W + 1 while a day is open", Years::richDay, year -> year.force(1, 3));
        due("51 when the year is over", Years.richOver().force(1, 51), 1);
        EDGE.none("52 when the year is over", Years::richOver, year -> year.force(1, 52));
        due("51 in the last week", Years.at(Years.rich(), 51).force(1, 51), 1);
    }

    private static void forceOrder() {
        EDGE.sentence("32: NONE: none");
        EDGE.none("no terms", CottageYear::new, year -> year.force(0, 0));
        CottageYear year = tell(new CottageYear(), "1", 5);
        EDGE.sentence("32: from WEEKS up to it");
        due("a week ahead", year.force(4, 0), NONE);
        due("from that week on", year.force(5, 0), 0);
        due("a week behind", year.force(6, 0), 0);
        EDGE.sentence("32: of those told in WEEKS up to q");
        Years.at(year, 3);
        tell(year, "2", 5);
        due("q 2", year.force(5, 2), 0);
        due("q 3", year.force(5, 3), 1);
        Years.at(year, 4);
        due("q 3 in week 4", year.force(5, 3), 1);
        due("q 4", year.force(5, 4), 1);
        EDGE.sentence("32: the one from the greatest WEEK, of several the one told last");
        tell(year, "3", 4);
        due("told last, but from a lesser week", year.force(5, 4), 1);
        due("alone in that week", year.force(4, 4), 2);
        tell(year, "4", 6);
        due("not yet", year.force(5, 4), 1);
        due("from a greater week", year.force(6, 4), 3);
        tell(year, "5", 5);
        due("told last of several", year.force(5, 4), 4);
        due("from a lesser week all the same", year.force(6, 4), 3);
        CottageYear first = tell(tell(new CottageYear(), "1", 0), "2", 51);
        due("the last week", first.force(51, 0), 1);
        due("the week ahead of it", first.force(50, 0), 0);
        due("the first week", first.force(0, 0), 0);
    }

    /** COTTAGE 0 with twelve GUESTS and a DOG; its JOB on the DAY of WEEK 1 was READY at 700; that of 1 not. */
    private static CottageYear oneReady() {
        CottageYear year = Years.alike(3);
        year.team(12);
        year.book(0, 0, 12, true, 0);
        year.book(1, 0, 1, false, 0);
        year.book(0, 1, 1, false, 0);
        Check.pass(year, 1);
        year.openDay();
        year.state(0, 100);
        year.plan();
        return Years.till(year, 705);
    }

    private static int payBy(String text) {
        return tell(oneReady(), text, 0).pay(0, 1, 0);
    }

    private static void payRefused() {
        Supplier<CottageYear> told = () -> tell(oneReady(), "7", 0);
        EDGE.sentence("33: NONE: no such TERMS");
        due("terms 0", told.get().pay(0, 1, 0), 7);
        for (int terms : new int[] {-1, 1, 19, 20, LEAST, MOST}) {
            EDGE.none("terms " + terms, told, year -> year.pay(terms, 1, 0));
        }
        EDGE.none("none at all", EdgePayTest::oneReady, year -> year.pay(0, 1, 0));
        EDGE.sentence("33: NONE: no such JOB");
        for (int week : new int[] {-1, 0, 2, 51, 52, LEAST, MOST}) {
            EDGE.none("week " + week, told, year -> year.pay(0, week, 0));
        }
        for (int cottage : new int[] {-1, 2, 3, 6, 7, LEAST, MOST}) {
            EDGE.none("cottage " + cottage, told, year -> year.pay(0, 1, cottage));
        }
        EDGE.sentence("33: NONE: it is not READY");
        EDGE.none("one that is cleaned", told, year -> year.pay(0, 1, 1));
        EDGE.none("one that was left out", () -> {
            CottageYear year = told.get();
            year.closeDay();
            return year;
        }, year -> year.pay(0, 1, 1));
        CottageYear later = told.get();
        Years.till(later, 722);
        due("a minute ahead of ready", later.pay(0, 1, 1), NONE);
        Years.till(later, 723);
        due("ready", later.pay(0, 1, 1), 7);
        due("asked when the year is over", Years.at(closed(told.get()), 52).pay(0, 1, 0), 7);
        due("by terms from another week, too", tell(oneReady(), "8", 51).pay(0, 1, 0), 8);
        CottageYear twenty = oneReady();
        for (int i = 0; i < 20; i++) {
            tell(twenty, "9", 0);
        }
        due("by the last of 20", twenty.pay(19, 1, 0), 9);
        due("by no 21st", twenty.pay(20, 1, 0), NONE);
    }

    private static CottageYear closed(CottageYear year) {
        year.closeDay();
        return year;
    }

    private static void duePay(String text, int want) {
        due("pay by '" + text + "'", payBy(text), want);
    }

    private static void payBounds() {
        EDGE.sentence("33: PAY: but 0 .. 10,000");
        duePay("0-2", 0);
        duePay("0-1", 0);
        duePay("0", 0);
        duePay("1", 1);
        duePay("9999", 9999);
        duePay("9999+1", 10000);
        duePay("9999+2", 10000);
        duePay("1000*1000*1000", 10000);
        duePay("0-1000*1000*1000", 0);
        EDGE.sentence("33: behind each sign within -1,000,000,000 .. 1,000,000,000");
        duePay("1000*1000*1000-9999*9999*10-9999*20", 10);
        duePay("1000*1000*1000+1-9999*9999*10-9999*20", 10);
        duePay("1000*1000*1001-9999*9999*10-9999*20", 10);
        duePay("1000*1000*999+9999*9999-9999*9999*10-9999*20", 10);
        duePay("0-1000*1000*1000+9999*9999*10+9999*20+20", 10);
        duePay("0-1000*1000*1000-1+9999*9999*10+9999*20+20", 10);
        duePay("(0-1000)*1000*1001+9999*9999*10+9999*20+20", 10);
        duePay("9999*9999*9999*9999*9999*9999/1000/1000", 1000);
        duePay("(1000*1000*1000+5)-1000*1000*1000", 0);
        duePay("5+(1000*1000*1000-1000*1000*1000)", 5);
        duePay("1000*1000*1000+5=1000*1000*1000?3;4", 3);
        duePay("(0-9999*9999*9999)*(0-9999*9999*9999)/1000/1000", 1000);
    }

    private static void paySigns() {
        EDGE.sentence("33: From the left");
        duePay("10-3-2", 5);
        duePay("10-3+2", 9);
        duePay("100/10/2", 5);
        duePay("100/10*2", 20);
        duePay("3*5/2", 7);
        duePay("2+3*4", 14);
        duePay("2*3+4", 10);
        duePay("20-2*3-4", 10);
        duePay("(2+3)*4", 20);
        EDGE.sentence("33: / cuts towards 0, by 0 gives 0");
        duePay("7/2", 3);
        duePay("8/2", 4);
        duePay("1/2", 0);
        duePay("10+(0-7)/2", 7);
        duePay("10+7/(0-2)", 7);
        duePay("10+(0-7)/(0-2)", 13);
        duePay("10+(0-1)/2", 10);
        duePay("7/0", 0);
        duePay("0/0", 0);
        duePay("5+7/0", 5);
        duePay("7/0*3+1", 1);
        duePay("5/(3-3)+2", 2);
        EDGE.sentence("33: Blanks, digits");
        duePay(" 12 + 30 ", 42);
        duePay("0012", 12);
        duePay("( 1 + 2 ) * 3", 9);
    }

    private static void payClauses() {
        EDGE.sentence("33: the SUM of the first CLAUSE whose TESTS hold (all, without), 0 without");
        duePay("5;6", 5);
        duePay("1=1?5;6", 5);
        duePay("1=2?5;6", 6);
        duePay("1=2?5", 0);
        duePay("1=2?5;1=2?6", 0);
        duePay("1=1&2=2?5;6", 5);
        duePay("1=2&2=2?5;6", 6);
        duePay("1=1&2=1?5;6", 6);
        duePay("1=1&2=2&3=4?5;6", 6);
        duePay("1=2?5;1=3?6;1=1?7;8", 7);
        duePay("1=2?5;(6+1)*2;8", 14);
        duePay("1=1?0-5;6", 0);
        EDGE.sentence("33: one of = < >");
        duePay("2<3?1", 1);
        duePay("3<3?1", 0);
        duePay("4<3?1", 0);
        duePay("4>3?1", 1);
        duePay("3>3?1", 0);
        duePay("2>3?1", 0);
        duePay("2=3?1", 0);
        duePay("3=3?1", 1);
        duePay("4=3?1", 0);
        duePay("0-1<0?1", 1);
        StringBuilder text = new StringBuilder("1=2?3");
        for (int i = 0; i < 18; i++) {
            text.append(";1=2?3");
        }
        duePay(text + ";1=2?3", 0);
        duePay(text + ";4", 4);
    }

    private static void payLetters() {
        EDGE.sentence("33: Letters of a JOB");
        duePay("c", 100);
        duePay("g", 12);
        duePay("d", 1);
        duePay("l", 0);
        duePay("r", 10);
        duePay("h", 10);
        for (int begun : new int[] {59, 60, 1379, 1380, 1439}) {
            CottageYear year = Years.alike(1);
            year.team(12);
            year.book(0, 0, 1, false, 0);
            Check.pass(year, 1);
            year.openDay();
            year.late(0, begun);
            year.state(0, 1);
            year.way(0, 1, 0);
            year.plan();
            Years.till(year, begun + 1);
            due("h at " + begun, tell(year, "h", 0).pay(0, 1, 0), begun / 60);
            due("one guest", tell(year, "g", 0).pay(1, 1, 0), 1);
            due("no dog", tell(year, "d", 0).pay(2, 1, 0), 0);
            due("no way", tell(year, "r", 0).pay(3, 1, 0), 0);
            due("clean", tell(year, "c", 0).pay(4, 1, 0), 1);
            due("not late", tell(year, "l", 0).pay(5, 1, 0), 0);
        }
        for (int out = 860; out < 863; out++) {
            CottageYear year = Years.alike(1);
            year.team(12);
            year.book(0, 0, 1, false, 0);
            year.book(0, 1, 1, false, 0);
            Check.pass(year, 1);
            year.openDay();
            year.late(0, out);
            year.state(0, 100);
            year.plan();
            Years.till(year, 970);
            due("l of one ready at " + (out + 100), tell(year, "l", 0).pay(0, 1, 0), out - 860);
        }
    }

    private static void lineEdges() {
        EDGE.sentence("34: -1,000,000 without");
        for (int i : new int[] {-1, 2, 3, 2999, 3000, LEAST, MOST}) {
            EDGE.refused("line " + i + " of 2", Years::rich, year -> year.line(i, 0), NO_LINE);
        }
        EDGE.refused("none at all", CottageYear::new, year -> year.line(0, 0), NO_LINE);
        EDGE.sentence("34: or for others");
        for (int what : new int[] {-1, 5, 6, LEAST, MOST}) {
            EDGE.refused("what " + what, Years::rich, year -> year.line(0, what), NO_LINE);
        }
        EDGE.sentence("34: Of LINE i");
        int[] first = {1, 1, 0, 0, 69};
        int[] last = {1, 1, 1, 0, 98};
        for (int what = 0; what < 5; what++) {
            due("the first: " + what, Years.rich().line(0, what), first[what]);
            due("the last: " + what, Years.rich().line(1, what), last[what]);
        }
        due("none till the day is closed", tell(oneReady(), "7", 0).line(0, 4), NO_LINE);
    }

    private static void linesOfWhichJobs() {
        EDGE.sentence("16: each JOB that was READY whose PAY is another than BOOKED for it has a LINE with the difference");
        CottageYear year = tell(oneReady(), "7", 0);
        due("one of two was ready", year.closeDay(), 1);
        due("coins", year.line(0, 4), 7);
        due("booked", year.job(1, 0, 9), 7);
        due("not for the one left out", year.job(1, 1, 9), 0);
        tell(year, "7", 1);
        year.openDay();
        due("other terms, the same pay", year.closeDay(), 0);
        tell(year, "6", 1);
        year.openDay();
        due("one coin less", year.closeDay(), 1);
        due("the difference", year.line(1, 4), -1);
        tell(year, "0", 1);
        year.openDay();
        year.closeDay();
        due("nothing any more", year.line(2, 4), -6);
        due("booked", year.job(1, 0, 9), 0);
        due("of all lines", year.count(9), 0);
        tell(year, "9999+9999", 1);
        year.openDay();
        year.closeDay();
        due("the most", year.line(3, 4), 10000);
        due("a pay of 0 is no line", tell(oneReady(), "0", 0).closeDay(), 0);
        due("no terms, no line", oneReady().closeDay(), 0);
    }

    private static void linesOfWhichTerms() {
        EDGE.sentence("16: PAY as known in W (that is closed)");
        due("from the week of the job", tell(oneReady(), "7", 1).closeDay(), 1);
        due("from a week behind it", tell(oneReady(), "7", 2).closeDay(), 0);
        CottageYear year = closed(oneReady());
        tell(year, "7", 1);
        due("told when it was closed: no line yet", year.count(8), 0);
        year.openDay();
        due("with the next closing", year.closeDay(), 1);
        due("the week that was closed", year.line(0, 0), 2);
        due("the week of the job", year.line(0, 1), 1);
        CottageYear last = Years.at(closed(oneReady()), 51);
        tell(last, "7", 0);
        last.openDay();
        tell(last, "8", 1);
        due("told on the last day", last.closeDay(), 1);
        due("by the last terms", last.line(0, 4), 8);
        due("the last week", last.line(0, 0), 51);
    }

    private static void linesInOrder() {
        EDGE.sentence("16: of this DAY and of those ahead, in order of WEEKS, then COTTAGES");
        CottageYear year = Years.alike(7);
        year.team(30);
        for (int week = 0; week < 3; week++) {
            for (int c = 6; c >= 0; c--) {
                year.book(c, week, 1, false, 0);
            }
        }
        Check.pass(year, 1);
        for (int week = 1; week < 4; week++) {
            year.openDay();
            year.plan();
            Years.till(year, 1000);
            if (week == 3) {
                tell(year, "5", 2);
                tell(year, "4", 0);
            }
            due("lines of week " + week, year.closeDay(), week < 3 ? 0 : 21);
        }
        for (int i = 0; i < 21; i++) {
            due("closed", year.line(i, 0), 3);
            due("week of line " + i, year.line(i, 1), 1 + i / 7);
            due("cottage of line " + i, year.line(i, 2), i % 7);
            due("coins of line " + i, year.line(i, 4), i < 7 ? 4 : 5);
        }
        due("lines", year.count(8), 21);
        due("coins", year.count(9), 7 * 4 + 14 * 5);
    }
}
