import java.util.function.Supplier;

/** Promises 35 to 44 at their edges, sentence by sentence. */
public final class EdgeBooksTest {
    private static final int NONE = CottageYear.NONE;
    private static final int REFUSED = -2;
    private static final int LEAST = Integer.MIN_VALUE;
    private static final int MOST = Integer.MAX_VALUE;
    private static final long TIMES = 6364136223846793005L;
    private static final long PLUS = 1442695040888963407L;
    private static final Edge EDGE = new Edge("edges of 35 to 44");

    public static void main(String[] args) {
        lookBounds();
        lookMany();
        worthBounds();
        lostRefused();
        lostNobodyKnows();
        lostByOne();
        keptRefused();
        keptByOne();
        complainRefused();
        complainMany();
        complainBlames();
        complainByAMinute();
        blamedBounds();
        blamedMany();
        drawRefused();
        drawSeeds();
        drawWeights();
        codeRefused();
        codesInOrder();
        doorRefused();
        doorOfWhoLeaves();
        doorOfWhoComes();
        countBounds();
        countDay();
        countMany();
        countJobs();
        EDGE.end();
    }

    private static void due(String what, long got, long want) {
        EDGE.due(what, got, want);
    }

    private static void due(String what, boolean got, boolean want) {
        EDGE.due(what, got, want);
    }

    private static void lookBounds() {
        EDGE.sentence("35: LOOKS (three things, 0 .. 99 each). NONE: out of bounds");
        due("0", Years.rich().look(0, 0, 0, 0), 3);
        due("99", Years.rich().look(0, 99, 99, 99), 3);
        for (int many : new int[] {-1, 100, LEAST, MOST}) {
            EDGE.none("a " + many, Years::rich, year -> year.look(0, many, 5, 5));
            EDGE.none("b " + many, Years::rich, year -> year.look(0, 5, many, 5));
            EDGE.none("c " + many, Years::rich, year -> year.look(0, 5, 5, many));
        }
        EDGE.sentence("35: NONE: no such COTTAGE");
        for (int cottage : new int[] {-1, 3, 6, 7, LEAST, MOST}) {
            EDGE.none("cottage " + cottage, Years::rich, year -> year.look(cottage, 5, 5, 5));
        }
        due("the last one", Years.rich().look(2, 5, 5, 5), 3);
        due("while a day is open", Years.richDay().look(0, 5, 5, 5), 3);
        due("when the year is over", Years.richOver().look(0, 5, 5, 5), 3);
    }

    private static CottageYear looks(int many) {
        CottageYear year = Years.alike(2);
        for (int i = 0; i < many; i++) {
            year.look(i % 2, 50, 50, 50);
        }
        return year;
    }

    private static void lookMany() {
        EDGE.sentence("35: how many LOOKS there are of all (60 in all). NONE: 60");
        for (int many : new int[] {0, 1, 58, 59}) {
            due("there are " + many, looks(many).count(10), many);
            due("one more", looks(many).look(1, 0, 0, 0), many + 1);
        }
        due("there are 60", looks(60).count(10), 60);
        EDGE.none("the 61st", () -> looks(60), year -> year.look(0, 0, 0, 0));
        EDGE.none("the 61st, in another cottage", () -> looks(60), year -> year.look(1, 0, 0, 0));
        CottageYear year = looks(59);
        year.book(0, 0, 1, false, 100);
        year.openDay();
        due("the 60th", year.look(0, 49, 50, 50), 60);
        due("it is used", year.lost(0, 0), 1);
    }

    /** A LOOK, a STAY, a LOOK in COTTAGE 0: so many of each thing more ahead than behind. */
    private static CottageYear stay(int deposit, int... more) {
        CottageYear year = Years.alike(2);
        year.book(0, 0, 1, false, deposit);
        year.look(0, 50 + more[0], 50 + more[1], 50 + more[2]);
        year.openDay();
        year.look(0, 50, 50, 50);
        return year;
    }

    private static void worthBounds() {
        EDGE.sentence("36: WORTH (0 .. 100; 1 at first)");
        due("1 at first", stay(1000, 3, 0, 0).kept(0), 3);
        due("1 at first", stay(1000, 0, 4, 0).kept(0), 4);
        due("1 at first", stay(1000, 0, 0, 5).kept(0), 5);
        for (int coins : new int[] {0, 100}) {
            for (int thing = 0; thing < 3; thing++) {
                CottageYear year = stay(1000, thing == 0 ? 2 : 0, thing == 1 ? 2 : 0, thing == 2 ? 2 : 0);
                due("worth " + coins + " of " + thing, year.worth(thing, coins), true);
                due("it is used", year.kept(0), 2 * coins);
            }
        }
        EDGE.sentence("36: False: out of bounds");
        Supplier<CottageYear> made = () -> stay(1000, 2, 3, 5);
        for (int coins : new int[] {-1, 101, LEAST, MOST}) {
            for (int thing = 0; thing < 3; thing++) {
                int of = thing;
                EDGE.isFalse("worth " + coins + " of " + thing, made, year -> year.worth(of, coins));
            }
        }
        EDGE.sentence("36: a thing (0 .. 2)");
        for (int thing : new int[] {-1, 3, LEAST, MOST}) {
            EDGE.isFalse("thing " + thing, made, year -> year.worth(thing, 7));
        }
        CottageYear year = stay(1000, 2, 3, 5);
        year.worth(0, 7);
        year.worth(2, 11);
        due("each by its own", year.kept(0), 2 * 7 + 3 + 5 * 11);
        due("in a new year", new CottageYear().worth(0, 5), true);
        due("when the year is over", Years.richOver().worth(0, 5), true);
    }

    private static void lostRefused() {
        Supplier<CottageYear> made = () -> stay(1000, 2, 3, 5);
        EDGE.sentence("37: NONE: no such ones");
        for (int thing : new int[] {-1, 3, LEAST, MOST}) {
            EDGE.none("thing " + thing, made, year -> year.lost(0, thing));
        }
        due("thing 0", made.get().lost(0, 0), 2);
        due("thing 1", made.get().lost(0, 1), 3);
        due("thing 2", made.get().lost(0, 2), 5);
        for (int booking : new int[] {-1, 1, 59, 60, LEAST, MOST}) {
            EDGE.none("booking " + booking, made, year -> year.lost(booking, 0));
        }
        EDGE.none("a 61st", Years::full, year -> year.lost(60, 0));
        EDGE.sentence("37: NONE: none has begun");
        EDGE.none("not yet", EdgeBooksTest::notBegun, year -> year.lost(0, 0));
        EDGE.none("cancelled", () -> {
            CottageYear year = notBegun();
            year.cancel(0);
            Years.at(year, 1);
            year.look(0, 1, 1, 1);
            return year;
        }, year -> year.lost(0, 0));
        EDGE.none("shut", EdgeBooksTest::shutOne, year -> year.lost(0, 0));
    }

    private static CottageYear notBegun() {
        CottageYear year = Years.alike(1);
        year.book(0, 0, 1, false, 100);
        year.look(0, 9, 9, 9);
        year.look(0, 5, 5, 5);
        return year;
    }

    /** A BOOKING of a SHUT COTTAGE between two LOOKS, its DAY open. */
    private static CottageYear shutOne() {
        CottageYear year = Years.alike(1);
        year.book(0, 0, 1, false, 100);
        year.shut(0, 0, true);
        year.look(0, 9, 9, 9);
        year.openDay();
        year.look(0, 5, 5, 5);
        return year;
    }

    private static void lostNobodyKnows() {
        EDGE.sentence("37: if the entries ahead of it and behind it next are both LOOKS; else nobody knows");
        CottageYear ahead = Years.alike(2);
        ahead.book(0, 0, 1, false, 100);
        ahead.look(1, 9, 9, 9);
        ahead.openDay();
        due("none ahead, none behind", ahead.lost(0, 0), NONE);
        ahead.look(0, 5, 5, 5);
        due("none ahead but of another cottage", ahead.lost(0, 0), NONE);
        due("nothing is kept", ahead.kept(0), 0);
        CottageYear behind = Years.alike(2);
        behind.book(0, 0, 1, false, 100);
        behind.look(0, 9, 9, 9);
        behind.openDay();
        due("none behind", behind.lost(0, 0), NONE);
        behind.look(1, 5, 5, 5);
        due("none behind but of another cottage", behind.lost(0, 0), NONE);
        behind.look(0, 5, 5, 5);
        due("both", behind.lost(0, 0), 4);
        behind.look(0, 1, 1, 1);
        due("the next one behind it", behind.lost(0, 0), 4);
        CottageYear stays = Years.alike(1);
        for (int week = 0; week < 3; week++) {
            stays.book(0, week, 1, false, 100);
        }
        stays.look(0, 9, 9, 9);
        Check.pass(stays, 3);
        stays.look(0, 5, 5, 5);
        for (int booking = 0; booking < 3; booking++) {
            due("three stays between two looks: " + booking, stays.lost(booking, 0), NONE);
            due("nothing is kept", stays.kept(booking), 0);
        }
        CottageYear two = Years.alike(1);
        two.look(0, 1, 1, 1);
        two.look(0, 9, 9, 9);
        two.book(0, 0, 1, false, 100);
        two.openDay();
        two.look(0, 7, 7, 7);
        due("the next one ahead of it", two.lost(0, 0), 2);
        two.closeDay();
        two.book(0, 1, 1, false, 100);
        two.openDay();
        two.look(0, 4, 4, 4);
        due("one look is behind one stay and ahead of the next", two.lost(1, 0), 3);
        EDGE.sentence("37: STAYS (as the DAY of their WEEK is opened)");
        due("a look between closing and opening is ahead of it", Years.rich().lost(2, 0), NONE);
        due("a cancelled one is no entry", cancelledBetween().lost(0, 0), 4);
    }

    /** A LOOK, a STAY, a cancelled BOOKING and one of a SHUT COTTAGE a WEEK later, a LOOK. */
    private static CottageYear cancelledBetween() {
        CottageYear year = Years.alike(1);
        year.book(0, 0, 1, false, 100);
        year.book(0, 1, 1, false, 100);
        year.book(0, 2, 1, false, 100);
        year.cancel(1);
        year.shut(0, 2, true);
        year.look(0, 9, 9, 9);
        Check.pass(year, 3);
        year.look(0, 5, 5, 5);
        return year;
    }

    private static void lostByOne() {
        EDGE.sentence("37: what the one ahead has more (0, if none)");
        for (int more = -2; more <= 2; more++) {
            CottageYear year = stay(1000, more, 0, -more);
            due("thing 0: " + more, year.lost(0, 0), Math.max(0, more));
            due("thing 1", year.lost(0, 1), 0);
            due("thing 2: " + -more, year.lost(0, 2), Math.max(0, -more));
        }
        CottageYear all = Years.alike(1);
        all.book(0, 0, 1, false, 100);
        all.look(0, 99, 0, 99);
        all.openDay();
        all.look(0, 0, 99, 99);
        due("all", all.lost(0, 0), 99);
        due("none", all.lost(0, 1), 0);
        due("none", all.lost(0, 2), 0);
    }

    private static void keptRefused() {
        EDGE.sentence("38: NONE: no such one");
        for (int booking : new int[] {-1, 1, 59, 60, LEAST, MOST}) {
            EDGE.none("booking " + booking, () -> stay(1000, 2, 3, 5), year -> year.kept(booking));
        }
        EDGE.none("a 61st", Years::full, year -> year.kept(60));
        EDGE.sentence("38: NONE: none has begun");
        EDGE.none("not yet", EdgeBooksTest::notBegun, year -> year.kept(0));
        EDGE.none("shut", EdgeBooksTest::shutOne, year -> year.kept(0));
        EDGE.none("cancelled", () -> {
            CottageYear year = notBegun();
            year.cancel(0);
            return Years.at(year, 1);
        }, year -> year.kept(0));
    }

    private static void keptByOne() {
        EDGE.sentence("38: the sum of LOST times WORTH of things, at most the DEPOSIT");
        for (int deposit : new int[] {0, 1, 9, 10, 11, 1000}) {
            due("deposit " + deposit + ", 10 lost", stay(deposit, 2, 3, 5).kept(0), Math.min(10, deposit));
        }
        due("nothing lost", stay(1000, 0, 0, 0).kept(0), 0);
        due("only more", stay(1000, -5, -5, -5).kept(0), 0);
        due("what is more does not pay for what is lost", stay(1000, 5, -5, -5).kept(0), 5);
        CottageYear most = Years.alike(1);
        most.book(0, 0, 1, false, 1000);
        most.look(0, 99, 99, 99);
        most.openDay();
        most.look(0, 0, 0, 0);
        for (int thing = 0; thing < 3; thing++) {
            most.worth(thing, 100);
        }
        due("29,700 lost", most.kept(0), 1000);
        for (int thing = 0; thing < 3; thing++) {
            most.worth(thing, 0);
        }
        due("worth nothing", most.kept(0), 0);
        EDGE.sentence("38: (0, if nobody knows)");
        due("no look behind", Years.rich().kept(2), 0);
        due("no look at all", Years.rich().kept(1), 0);
        due("known", Years.rich().kept(0), 3 + 3);
    }

    private static void complainRefused() {
        EDGE.sentence("39: -2: no such BOOKING");
        for (int booking : new int[] {-1, 9, 59, 60, LEAST, MOST}) {
            EDGE.refused("booking " + booking, Years::richDay, year -> year.complain(booking, 0), REFUSED);
        }
        EDGE.refused("a 61st", Years::full, year -> year.complain(60, 0), REFUSED);
        EDGE.sentence("39: -2: kind");
        for (int kind : new int[] {-1, 4, 5, LEAST, MOST}) {
            EDGE.refused("kind " + kind, Years::richDay, year -> year.complain(0, kind), REFUSED);
        }
        due("kind 0", Years.richDay().complain(3, 0), 0);
        due("kind 1", Years.richDay().complain(3, 1), 0);
        due("kind 2", Years.richDay().complain(3, 2), NONE);
        due("kind 3", Years.richDay().complain(3, 3), NONE);
        EDGE.sentence("39: -2: its STAY has not begun");
        EDGE.refused("of W, its day not opened", Years::rich, year -> year.complain(4, 0), REFUSED);
        due("of W, its day open", Years.richDay().complain(4, 3), NONE);
        EDGE.refused("of a week to come", Years::richDay, year -> year.complain(7, 0), REFUSED);
        EDGE.refused("cancelled", Years::richOver, year -> year.complain(8, 0), REFUSED);
        EDGE.refused("shut", EdgeBooksTest::shutOne, year -> year.complain(0, 0), REFUSED);
        due("when the year is over", Years.richOver().complain(3, 0), 0);
    }

    private static CottageYear complaints(int many) {
        CottageYear year = oneReady(900);
        for (int i = 0; i < many; i++) {
            year.complain(1, i % 4);
        }
        return year;
    }

    private static void complainMany() {
        EDGE.sentence("39: COMPLAINTS (60 at most). -2: there are 60");
        for (int many : new int[] {0, 1, 58, 59}) {
            due("there are " + many, complaints(many).count(11), many);
            due("one more", complaints(many).complain(1, 0), 0);
        }
        due("there are 60", complaints(60).count(11), 60);
        due("of that booking", complaints(60).booked(1, 8), 60);
        for (int kind = 0; kind < 4; kind++) {
            int of = kind;
            EDGE.refused("the 61st, kind " + kind, () -> complaints(60), year -> year.complain(1, of), REFUSED);
        }
        EDGE.refused("the 61st, of another booking", () -> complaints(60), year -> year.complain(0, 0), REFUSED);
    }

    /** One JOB with 60 minutes to clean, of TEAM 1 of two, OUT at such a minute, the DAY at 1,000. */
    private static CottageYear oneReady(int out) {
        CottageYear year = Years.alike(3);
        year.team(12);
        year.team(12);
        year.book(0, 0, 1, false, 0);
        year.book(0, 1, 1, false, 0);
        year.book(1, 1, 1, false, 0);
        Check.pass(year, 1);
        year.openDay();
        year.late(0, out);
        year.state(0, 60);
        year.plan();
        return Years.till(year, 1000);
    }

    private static void complainBlames() {
        EDGE.sentence("39: BLAMED is the TEAM that had READY the JOB of its COTTAGE on the DAY on which it came, if one had");
        due("dirt of who came", oneReady(900).complain(1, 0), 0);
        due("dirt of who left", oneReady(900).complain(0, 0), NONE);
        due("dirt without a job", oneReady(900).complain(2, 0), NONE);
        due("broken", oneReady(900).complain(1, 2), NONE);
        due("noise", oneReady(900).complain(1, 3), NONE);
        due("ready just now", oneReady(940).complain(1, 0), 0);
        due("ready in a minute", oneReady(941).complain(1, 0), NONE);
        due("late, ready in a minute", oneReady(941).complain(1, 1), NONE);
        CottageYear out = oneReady(941);
        out.closeDay();
        due("left out", out.complain(1, 0), NONE);
        due("it is a complaint all the same", out.count(11), 1);
        CottageYear later = oneReady(900);
        later.closeDay();
        later.openDay();
        due("not the job behind the stay", later.complain(1, 0), 0);
        due("blamed", later.blamed(0, 0), 1);
        CottageYear none = oneReady(900);
        due("nobody", none.complain(1, 3), NONE);
        due("so nobody is blamed", none.blamed(0, 3), 0);
    }

    private static void complainByAMinute() {
        EDGE.sentence("39: (late: only if LATE above 0)");
        for (int out = 899; out < 903; out++) {
            boolean late = out > 900;
            due("ready at " + (out + 60), oneReady(out).job(1, 0, 6), Math.max(0, out - 900));
            due("late", oneReady(out).complain(1, 1), late ? 0 : NONE);
            due("dirt", oneReady(out).complain(1, 0), 0);
            CottageYear year = oneReady(out);
            year.complain(1, 1);
            due("blamed for late", year.blamed(0, 1), late ? 1 : 0);
        }
    }

    private static void blamedBounds() {
        EDGE.sentence("40: NONE: no such ones");
        for (int team : new int[] {-1, 2, 3, LEAST, MOST}) {
            EDGE.none("team " + team, Years::rich, year -> year.blamed(team, 0));
        }
        for (int kind : new int[] {-1, 4, LEAST, MOST}) {
            EDGE.none("kind " + kind, Years::rich, year -> year.blamed(0, kind));
        }
        EDGE.none("none at all", CottageYear::new, year -> year.blamed(0, 0));
        due("the last team, the last kind", Years.rich().blamed(1, 3), 0);
        due("of three", threeTeams().blamed(2, 0), 0);
        EDGE.none("a fourth", EdgeBooksTest::threeTeams, year -> year.blamed(3, 0));
    }

    private static CottageYear threeTeams() {
        CottageYear year = new CottageYear();
        year.team(12);
        year.team(12);
        year.team(12);
        return year;
    }

    private static void blamedMany() {
        EDGE.sentence("40: How many COMPLAINTS of a kind a TEAM was BLAMED for");
        due("none", complaints(0).blamed(0, 0), 0);
        due("one", complaints(1).blamed(0, 0), 1);
        due("15 of 60", complaints(60).blamed(0, 0), 15);
        due("it was not late", complaints(60).blamed(0, 1), 0);
        due("nobody is blamed for that", complaints(60).blamed(0, 2), 0);
        due("nobody is blamed for that", complaints(60).blamed(0, 3), 0);
        due("the other team", complaints(60).blamed(1, 0), 0);
        CottageYear all = oneReady(930);
        for (int i = 0; i < 60; i++) {
            all.complain(1, 1);
        }
        due("all 60 for late", all.blamed(0, 1), 60);
        due("none for dirt", all.blamed(0, 0), 0);
    }

    /** Seven JOBS, all READY but the last so many, which are cleaned till the evening. */
    private static CottageYear sevenReady(int notYet) {
        CottageYear year = Years.alike(7);
        year.team(30);
        for (int c = 0; c < 7; c++) {
            year.book(c, 0, 1, false, 0);
        }
        Check.pass(year, 1);
        year.openDay();
        for (int c = 7 - notYet; c < 7; c++) {
            year.late(c, 1430);
        }
        year.plan();
        return Years.till(year, 1440);
    }

    private static void drawRefused() {
        EDGE.sentence("41: NONE: no DAY open");
        EDGE.none("a new year", CottageYear::new, year -> year.draw(1, 1));
        EDGE.none("behind the day", () -> {
            CottageYear year = sevenReady(0);
            year.closeDay();
            return year;
        }, year -> year.draw(1, 1));
        EDGE.none("the next day, before any is ready", () -> {
            CottageYear year = oneReady(900);
            year.closeDay();
            year.openDay();
            return year;
        }, year -> year.draw(1, 1));
        EDGE.sentence("41: NONE: n below 1");
        for (int n : new int[] {0, -1, LEAST}) {
            EDGE.none("n " + n, () -> sevenReady(0), year -> year.draw(n, 1));
        }
        EDGE.sentence("41: NONE: n more than are READY");
        for (int ready = 0; ready <= 7; ready++) {
            int many = ready;
            Supplier<CottageYear> made = () -> sevenReady(7 - many);
            EDGE.none(ready + " ready, one more", made, year -> year.draw(many + 1, 1));
            due(ready + " ready, all of them", ready == 0 ? 0 : made.get().draw(ready, 1), (1 << ready) - 1);
        }
        EDGE.none("n 2,147,483,647", () -> sevenReady(0), year -> year.draw(MOST, 1));
        EDGE.refused("drawing changes nothing", () -> sevenReady(0), year -> Integer.bitCount(year.draw(3, 9)), 3);
    }

    private static int pick(int[] weights, int drawn, long number) {
        long sum = 0;
        for (int c = 0; c < weights.length; c++) {
            sum += (drawn >> c & 1) == 0 ? weights[c] : 0;
        }
        long place = number % sum;
        for (int c = 0; c < weights.length; c++) {
            long weight = (drawn >> c & 1) == 0 ? weights[c] : 0;
            if (place < weight) {
                return c;
            }
            place -= weight;
        }
        throw new IllegalStateException("nothing to draw");
    }

    private static int expected(int[] weights, int n, long seed) {
        int drawn = 0;
        long x = seed;
        for (int i = 0; i < n; i++) {
            x = x * TIMES + PLUS;
            drawn |= 1 << pick(weights, drawn, x >>> 33);
        }
        return drawn;
    }

    private static void drawSeeds() {
        EDGE.sentence("41: x, at first the seed, becomes .. (64 bits, going round); (x shifted right by 33, without sign)");
        long[] seeds = {0, 1, -1, 2, -2, Long.MAX_VALUE, Long.MIN_VALUE, 1L << 32, 1L << 33, -1L << 33, MOST, LEAST, TIMES, PLUS};
        int[] even = {1, 1, 1, 1, 1, 1, 1};
        for (long seed : seeds) {
            CottageYear year = sevenReady(0);
            for (int n = 1; n <= 7; n++) {
                due("draw(" + n + ", " + seed + ")", year.draw(n, seed), expected(even, n, seed));
            }
        }
        boolean below = false;
        for (long seed : seeds) {
            below |= seed * TIMES + PLUS < 0;
        }
        due("some x are below zero", below, true);
    }

    private static void drawWeights() {
        EDGE.sentence("41: each JOB not drawn yet weighs 1 and how many COMPLAINTS its TEAM was BLAMED for");
        for (int blames = 0; blames < 4; blames++) {
            CottageYear year = twoReady();
            for (int i = 0; i < blames; i++) {
                year.complain(3, 0);
            }
            year.complain(2, 2);
            year.complain(2, 3);
            int[] weights = {1, 1 + blames};
            for (long seed = 0; seed < 30; seed++) {
                due(blames + " blames: draw(1, " + seed + ")", year.draw(1, seed), expected(weights, 1, seed));
                due(blames + " blames: draw(2, " + seed + ")", year.draw(2, seed), 3);
            }
        }
    }

    /** Two JOBS READY, the first by TEAM 0, the second by TEAM 1. */
    private static CottageYear twoReady() {
        CottageYear year = Years.alike(2);
        year.team(12);
        year.team(12);
        for (int week = 0; week < 2; week++) {
            year.book(0, week, 1, false, 0);
            year.book(1, week, 1, false, 0);
        }
        Check.pass(year, 1);
        year.openDay();
        year.late(0, 940);
        year.late(1, 940);
        year.plan();
        Years.till(year, 1000);
        due("who went to the first", year.job(1, 0, 7), 0);
        due("who went to the second", year.job(1, 1, 7), 1);
        return year;
    }

    private static void codeRefused() {
        EDGE.sentence("42: NONE: no such one");
        for (int booking : new int[] {-1, 9, 59, 60, LEAST, MOST}) {
            EDGE.none("booking " + booking, Years::richDay, year -> year.code(booking));
        }
        EDGE.none("a 61st", Years::full, year -> year.code(60));
        EDGE.sentence("42: NONE: none has begun");
        EDGE.none("of W, its day not opened", Years::rich, year -> year.code(4));
        EDGE.none("of a week to come", Years::richDay, year -> year.code(7));
        EDGE.none("cancelled", Years::richOver, year -> year.code(8));
        EDGE.none("shut", EdgeBooksTest::shutOne, year -> year.code(0));
        due("of a week that was", Years.rich().code(0), 4774);
        due("when the year is over", Years.richOver().code(0), 4774);
    }

    private static void codesInOrder() {
        EDGE.sentence("42: COTTAGE after COTTAGE that a STAY comes to: y, 1 at first for the whole year");
        CottageYear year = Years.alike(7);
        long y = 1;
        boolean below = false;
        for (int week = 0; week < 8; week++) {
            for (int c = 6; c >= 0; c--) {
                year.book(c, week, 1, false, 0);
            }
            year.shut(week % 7, week, true);
            year.openDay();
            for (int c = 0; c < 7; c++) {
                int booking = 7 * week + 6 - c;
                boolean shut = c == week % 7;
                y = shut ? y : y * TIMES + PLUS;
                below |= y < 0;
                due("week " + week + ", cottage " + c, year.code(booking), shut ? NONE : (y >>> 33) % 10000);
            }
            year.closeDay();
        }
        due("some y are below zero", below, true);
    }

    private static void doorRefused() {
        Supplier<CottageYear> made = () -> oneReady(900);
        int comes = oneReady(900).code(1);
        int leaves = oneReady(900).code(0);
        EDGE.sentence("43: False also: no DAY open");
        EDGE.isFalse("a new year", CottageYear::new, year -> year.door(0, 0, 0));
        EDGE.isFalse("behind the day", () -> {
            CottageYear year = oneReady(900);
            year.closeDay();
            return year;
        }, year -> year.door(0, comes, 960));
        for (int minute : new int[] {0, 899, 1000}) {
            for (int code : new int[] {leaves, comes}) {
                EDGE.isFalse("behind the day, code " + code + " at " + minute, () -> {
                    CottageYear year = oneReady(900);
                    year.closeDay();
                    return year;
                }, year -> year.door(0, code, minute));
                EDGE.isFalse("the year is over, code " + code + " at " + minute, () -> {
                    CottageYear year = oneReady(900);
                    year.closeDay();
                    return Years.at(year, 52);
                }, year -> year.door(0, code, minute));
            }
        }
        EDGE.isFalse("the last day was closed", EdgeBooksTest::lastDayClosed, year -> year.door(0, year.code(0), 0));
        EDGE.isFalse("the last day was closed", EdgeBooksTest::lastDayClosed, year -> year.door(0, year.code(1), 960));
        EDGE.sentence("43: False also: no such ones");
        for (int cottage : new int[] {-1, 3, 6, 7, LEAST, MOST}) {
            EDGE.isFalse("cottage " + cottage, made, year -> year.door(cottage, comes, 970));
        }
        for (int code : new int[] {-1, 10000, comes + 10000, -comes, LEAST, MOST}) {
            EDGE.isFalse("code " + code, made, year -> year.door(0, code, 970));
            EDGE.isFalse("code " + code, made, year -> year.door(0, code, 0));
            EDGE.isFalse("no stay at all, code " + code, made, year -> year.door(2, code, 970));
        }
        EDGE.isFalse("an eighth cottage", () -> sevenReady(0), year -> year.door(7, year.code(0), 0));
        EDGE.sentence("43: at a MINUTE of the open DAY, NOW or ahead");
        due("now", made.get().door(0, comes, 1000), true);
        for (int minute : new int[] {1001, 1440, 1441, LEAST, MOST}) {
            EDGE.isFalse("minute " + minute, made, year -> year.door(0, comes, minute));
        }
        due("the first minute", made.get().door(0, leaves, 0), true);
        for (int minute : new int[] {-1, LEAST}) {
            EDGE.isFalse("minute " + minute, made, year -> year.door(0, leaves, minute));
        }
        CottageYear early = Years.alike(1);
        early.book(0, 0, 1, false, 0);
        Check.pass(early, 1);
        early.openDay();
        due("now, at 0", early.door(0, early.code(0), 0), true);
        due("not at 1", early.door(0, early.code(0), 1), false);
        early.tick(1);
        due("now, at 1", early.door(0, early.code(0), 1), true);
    }

    /** A STAY left on the DAY of WEEK 51, and one came; that DAY was closed at 1,000. */
    private static CottageYear lastDayClosed() {
        CottageYear year = Years.alike(1);
        year.team(12);
        year.book(0, 50, 1, false, 0);
        year.book(0, 51, 1, false, 0);
        Years.at(year, 51);
        year.openDay();
        year.plan();
        Years.till(year, 1000);
        due("open till the last day is closed", year.door(0, year.code(0), 0) && year.door(0, year.code(1), 960), true);
        year.closeDay();
        return year;
    }

    private static void doorOfWhoLeaves() {
        EDGE.sentence("43: to that of the STAY that leaves till OUT (that minute not)");
        CottageYear year = oneReady(900);
        int leaves = year.code(0);
        due("899", year.door(0, leaves, 899), true);
        due("900", year.door(0, leaves, 900), false);
        due("901", year.door(0, leaves, 901), false);
        due("at another door", year.door(1, leaves, 0), false);
        CottageYear usual = Years.alike(1);
        usual.book(0, 0, 1, false, 0);
        Check.pass(usual, 1);
        usual.openDay();
        Years.till(usual, 700);
        due("599", usual.door(0, usual.code(0), 599), true);
        due("600", usual.door(0, usual.code(0), 600), false);
        usual.late(0, 700);
        due("told anew: 699", usual.door(0, usual.code(0), 699), true);
        due("told anew: 700", usual.door(0, usual.code(0), 700), false);
        usual.closeDay();
        usual.openDay();
        due("a week later", usual.door(0, usual.code(0), 0), false);
        CottageYear gone = Years.alike(1);
        gone.book(0, 0, 1, false, 0);
        Check.pass(gone, 1);
        gone.openDay();
        gone.late(0, 0);
        due("OUT 0", gone.door(0, gone.code(0), 0), false);
    }

    private static void doorOfWhoComes() {
        EDGE.sentence("43: to that of the one that comes from when the JOB is READY on");
        CottageYear year = oneReady(900);
        int comes = year.code(1);
        due("959", year.door(0, comes, 959), false);
        due("960", year.door(0, comes, 960), true);
        due("961", year.door(0, comes, 961), true);
        CottageYear early = oneReady(700);
        due("early: 759", early.door(0, comes, 759), false);
        due("early: 760", early.door(0, comes, 760), true);
        CottageYear late = oneReady(941);
        due("not ready", late.door(0, comes, 1000), false);
        late.tick(1);
        due("a minute ahead of ready", late.door(0, comes, 1000), false);
        due("ready", late.door(0, comes, 1001), true);
        EDGE.sentence("43: (without a JOB from 960 on)");
        int alone = year.code(2);
        due("959", year.door(1, alone, 959), false);
        due("960", year.door(1, alone, 960), true);
        due("the end", Years.till(year, 1440).door(1, alone, 1440), true);
        due("at another door", year.door(0, alone, 960), false);
        CottageYear first = Years.alike(1);
        first.book(0, 0, 1, false, 0);
        first.openDay();
        Years.till(first, 959);
        due("in week 0: 959", first.door(0, first.code(0), 959), false);
        first.tick(1);
        due("in week 0: 960", first.door(0, first.code(0), 960), true);
    }

    private static void countBounds() {
        EDGE.sentence("44: NONE for others");
        for (int what : new int[] {-1, 15, 16, LEAST, MOST}) {
            EDGE.none("what " + what, Years::richDay, year -> year.count(what));
        }
        due("0", Years.richDay().count(0), 2);
        due("14", Years.richDay().count(14), 3);
    }

    private static void countDay() {
        EDGE.sentence("44: 0 W, 1 whether a DAY is open (1), 2 NOW (NONE: none is open)");
        CottageYear year = new CottageYear();
        for (int week = 0; week < 52; week++) {
            due("W", year.count(0), week);
            due("no day", year.count(1), 0);
            due("no now", year.count(2), NONE);
            year.openDay();
            due("W on its day", year.count(0), week);
            due("a day", year.count(1), 1);
            due("now", year.count(2), 0);
            year.closeDay();
        }
        due("W at the end", year.count(0), 52);
        due("no day", year.count(1), 0);
        due("no now", year.count(2), NONE);
        CottageYear day = new CottageYear();
        day.openDay();
        day.tick(1);
        due("a minute", day.count(2), 1);
        due("the last minute", Years.till(day, 1440).count(2), 1440);
    }

    private static void countMany() {
        EDGE.sentence("44: 3 COTTAGES, 4 BOOKINGS, 5 those in force, 6 TEAMS, 7 TERMS, 10 LOOKS, 11 COMPLAINTS, 14 bytes");
        CottageYear year = Years.alike(7);
        due("cottages", year.count(3), 7);
        for (int i = 0; i < 60; i++) {
            year.book(i % 7, i / 7, 1, false, 0);
        }
        due("bookings", year.count(4), 60);
        due("in force", year.count(5), 60);
        for (int i = 59; i >= 0; i--) {
            year.cancel(i);
        }
        due("bookings", year.count(4), 60);
        due("none in force", year.count(5), 0);
        due("teams", threeTeams().count(6), 3);
        due("looks", looks(60).count(10), 60);
        due("complaints", complaints(60).count(11), 60);
        CottageYear past = Years.alike(1);
        past.book(0, 0, 1, false, 0);
        Years.at(past, 3);
        due("those of weeks that were are in force, too", past.count(5), 1);
    }

    private static void countJobs() {
        EDGE.sentence("44: 12 JOBS LEFT OUT so far");
        CottageYear year = sevenReady(3);
        due("none till it is closed", year.count(12), 0);
        year.closeDay();
        due("three", year.count(12), 3);
        Years.at(year, 52);
        due("at the end", year.count(12), 3);
        CottageYear none = sevenReady(0);
        none.closeDay();
        due("none", none.count(12), 0);
        EDGE.sentence("44: 13 LATE minutes of all JOBS READY");
        due("just in time", oneReady(900).count(13), 0);
        due("a minute", oneReady(901).count(13), 1);
        due("not of one that is not ready", oneReady(941).count(13), 0);
        due("40", oneReady(940).count(13), 40);
        CottageYear closed = oneReady(940);
        closed.closeDay();
        due("of all days", closed.count(13), 40);
        EDGE.sentence("44: 8 LINES, 9 coins of all LINES");
        due("none", new CottageYear().count(8) + new CottageYear().count(9), 0);
        due("two", Years.rich().count(8), 2);
        due("their coins", Years.rich().count(9), 69 + 98);
        due("two more", Years.richOver().count(8), 4);
        due("less coins", Years.richOver().count(9), 12 + 46);
    }
}
