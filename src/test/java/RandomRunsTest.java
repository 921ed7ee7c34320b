import java.util.NoSuchElementException;
import java.util.Random;

/** Random runs of calls, each answer compared with the Oracle's. Arguments: first seed, runs (for a longer hunt). */
public final class RandomRunsTest {
    private final Random random;
    private final CottageYear year = new CottageYear();
    private final Oracle oracle = new Oracle();
    private final StringBuilder story = new StringBuilder();
    private final int flavour;
    /** Some runs go on behind the document's 512 calls, to come to its other limits. */
    private final int most;
    private int calls;
    private boolean wrong;

    private RandomRunsTest(long seed) {
        random = new Random(seed);
        flavour = (int) (seed % 4);
        most = seed % 5 == 0 ? 3000 : 512;
    }

    public static void main(String[] args) {
        long first = args.length > 0 ? Long.parseLong(args[0]) : 1;
        int runs = args.length > 1 ? Integer.parseInt(args[1]) : 400;
        int bad = 0;
        for (long seed = first; seed < first + runs && bad < 3; seed++) {
            RandomRunsTest run = new RandomRunsTest(seed);
            run.go();
            if (run.wrong) {
                bad++;
                System.out.println("seed " + seed + ":\n" + run.story);
            }
        }
        System.out.println(bad == 0 ? "random runs: all answers as the oracle's" : "random runs: WRONG");
        if (bad != 0) {
            System.exit(1);
        }
    }

    private void due(String call, long got, long want) {
        calls++;
        if (story.length() < 60000) {
            story.append(call).append(" = ").append(got).append('\n');
        }
        if (got != want) {
            wrong = true;
            story.append("  WRONG, due is ").append(want).append('\n');
        }
    }

    private void due(String call, boolean got, boolean want) {
        due(call, got ? 1 : 0, want ? 1 : 0);
    }

    /** Mostly within bounds, now and then at an edge or beyond it. */
    private int near(int least, int most) {
        switch (random.nextInt(40)) {
            case 0: return least - 1;
            case 1: return most + 1;
            case 2: return least;
            case 3: return most;
            case 4: return random.nextInt(4) == 0 ? random.nextInt() : least;
            case 5: return random.nextInt(4) == 0 ? Integer.MAX_VALUE : most;
            case 6: return random.nextInt(4) == 0 ? Integer.MIN_VALUE : most;
            default: return most < least ? least : least + random.nextInt(most - least + 1);
        }
    }

    private int anyCottage() {
        return near(0, Math.max(0, oracle.cs.size() - 1));
    }

    private int anyBooking() {
        return near(0, Math.max(0, oracle.bs.size() - 1));
    }

    private int anyTeam() {
        return near(0, Math.max(0, oracle.ts.size() - 1));
    }

    private int anyWeek() {
        return random.nextInt(3) == 0 ? near(0, 51) : near(Math.max(0, oracle.w - 1), Math.min(51, oracle.w + 2));
    }

    private void go() {
        setUp();
        for (int turn = 0; calls < most && turn < 5000 && !wrong; turn++) {
            if (flavour == 0) {
                anything();
            } else {
                oneWeek(flavour == 1 ? 1 : 4 * flavour);
            }
        }
    }

    private void anything() {
        int kind = random.nextInt(100);
        if (kind < 24) {
            bookings();
        } else if (kind < 62) {
            day();
        } else {
            beside();
        }
    }

    private void beside() {
        int kind = random.nextInt(38);
        if (kind < 12) {
            wages();
        } else if (kind < 26) {
            books();
        } else {
            looksAround();
        }
    }

    /** A WEEK in its order: BOOKINGS, an opened DAY with PLANS, and its closing. */
    private void oneWeek(int busy) {
        for (int c = 0; c < oracle.cs.size() && !wrong; c++) {
            int guests = 1 + random.nextInt(oracle.cs.get(c).beds);
            boolean dog = oracle.cs.get(c).dogs && random.nextBoolean();
            if (random.nextInt(8) > (busy == 1 ? 6 : 1)) {
                due("book " + c + " " + oracle.w + " " + guests + " " + dog + " 30", year.book(c, oracle.w, guests, dog, 30), oracle.book(c, oracle.w, guests, dog, 30));
            }
        }
        for (int i = random.nextInt(busy); i > 0; i--) {
            bookings();
        }
        due("openDay", year.openDay(), oracle.openDay());
        if (random.nextBoolean()) {
            disturb();
        }
        for (int i = 0; i < busy && !wrong; i++) {
            due("best 0", year.best(0), oracle.best(0));
            due("best 1", year.best(1), oracle.best(1));
            due("best 2", year.best(2), oracle.best(2));
            if (i == 0 || random.nextBoolean()) {
                due("plan", year.plan(), oracle.plan());
                rows();
            }
            int n = busy == 1 ? 500 : 40 + random.nextInt(2000 / busy);
            due("tick " + n, year.tick(n), oracle.tick(n));
            if (random.nextBoolean()) {
                day();
            }
            beside();
        }
        if (busy == 1) {
            due("tick 500", year.tick(500), oracle.tick(500));
        }
        due("closeDay", year.closeDay(), oracle.closeDay());
        beside();
    }

    private void disturb() {
        for (int c = 0; c < oracle.cs.size(); c++) {
            int out = 600 + random.nextInt(400), minutes = 50 + random.nextInt(350);
            if (random.nextBoolean()) {
                due("late " + c + " " + out, year.late(c, out), oracle.late(c, out));
            } else {
                due("state " + c + " " + minutes, year.state(c, minutes), oracle.state(c, minutes));
            }
        }
    }

    private void setUp() {
        int cottages = flavour == 3 ? 2 + random.nextInt(2) : 3 + random.nextInt(3);
        for (int i = 0; i < cottages; i++) {
            cottage();
        }
        if (random.nextInt(3) > 0) {
            int sets = near(0, 60);
            int wash = near(0, 20);
            due("linen " + sets + " " + wash, year.linen(sets, wash), oracle.linen(sets, wash));
        }
        for (int i = random.nextInt(8) == 0 ? 0 : 1 + random.nextInt(3); i > 0; i--) {
            team();
        }
        if (random.nextBoolean()) {
            for (int i = 0; i < 10; i++) {
                way();
            }
        }
    }

    private void cottage() {
        int beds = near(1, 12), rent = near(1, 2000), minutes = near(10, 240);
        boolean dogs = random.nextInt(3) > 0;
        due("cottage " + beds + " " + dogs + " " + rent + " " + minutes, year.cottage(beds, dogs, rent, minutes), oracle.cottage(beds, dogs, rent, minutes));
    }

    private void team() {
        int load = near(12, 30);
        due("team " + load, year.team(load), oracle.team(load));
    }

    private void way() {
        int one = near(0, 7), other = near(0, 7), minutes = random.nextInt(6) == 0 ? 0 : near(0, 90);
        due("way " + one + " " + other + " " + minutes, year.way(one, other, minutes), oracle.way(one, other, minutes));
    }

    private void bookings() {
        int c = anyCottage(), w = anyWeek(), b = anyBooking();
        switch (random.nextInt(14)) {
            case 0: case 1: case 2: case 3: case 4: case 5: {
                int guests = random.nextInt(3) == 0 ? near(1, 12) : near(1, 4), deposit = near(0, random.nextBoolean() ? 1000 : 20);
                boolean dog = random.nextInt(4) == 0;
                if (random.nextInt(4) > 0) {
                    w = oracle.open ? oracle.w + 1 : oracle.w;
                }
                due("book " + c + " " + w + " " + guests + " " + dog + " " + deposit, year.book(c, w, guests, dog, deposit), oracle.book(c, w, guests, dog, deposit));
                break;
            }
            case 6:
                if (random.nextInt(3) == 0) due("cancel " + b, year.cancel(b), oracle.cancel(b));
                break;
            case 7: case 8: {
                boolean is = random.nextInt(3) > 0;
                due("shut " + c + " " + w + " " + is, year.shut(c, w, is), oracle.shut(c, w, is));
                break;
            }
            case 9:
                due("moves " + w + " 0", year.moves(w, 0), oracle.moves(w, 0));
                due("moves " + w + " 1", year.moves(w, 1), oracle.moves(w, 1));
                due("moves " + w + " 2", year.moves(w, 2), oracle.moves(w, 2));
                break;
            case 10: due("moved " + b, year.moved(b), oracle.moved(b)); break;
            case 11: if (random.nextBoolean()) due("move " + w, year.move(w), oracle.move(w)); break;
            case 12: {
                int coins = near(1, 2000);
                due("rent " + c + " " + coins, year.rent(c, coins), oracle.rent(c, coins));
                break;
            }
            default: {
                int what = near(0, 9), last = near(0, 51);
                due("booked " + b + " " + what, year.booked(b, what), oracle.booked(b, what));
                due("taken " + w + " " + last, year.taken(w, last), oracle.taken(w, last));
                due("fewest", year.fewest(), oracle.fewest());
            }
        }
    }

    private void day() {
        int c = anyCottage(), t = anyTeam();
        switch (random.nextInt(24)) {
            case 0: case 1: case 2: case 3: due("openDay", year.openDay(), oracle.openDay()); break;
            case 4:
                if (oracle.now > 900 || random.nextInt(6) == 0) due("closeDay", year.closeDay(), oracle.closeDay());
                break;
            case 5: case 6: {
                int out = near(oracle.now, random.nextBoolean() ? 1440 : Math.min(1440, oracle.now + 100));
                due("late " + c + " " + out, year.late(c, out), oracle.late(c, out));
                break;
            }
            case 7: {
                int minutes = near(1, 400);
                due("state " + c + " " + minutes, year.state(c, minutes), oracle.state(c, minutes));
                break;
            }
            case 8: case 9: {
                int what = near(0, 2);
                due("best " + what, year.best(what), oracle.best(what));
                break;
            }
            case 10: case 11: case 12: due("plan", year.plan(), oracle.plan()); rows(); break;
            case 13: case 14: case 15: case 16: case 17: {
                int n = random.nextInt(3) == 0 ? near(0, 500) : near(1, 120);
                due("tick " + n, year.tick(n), oracle.tick(n));
                break;
            }
            case 18: case 19: about(t, near(0, 5)); break;
            case 20: case 21: {
                int w = random.nextInt(3) == 0 ? anyWeek() : oracle.w, what = near(0, 9);
                due("job " + w + " " + c + " " + what, year.job(w, c, what), oracle.job(w, c, what));
                break;
            }
            case 22: if (random.nextInt(4) == 0) way(); break;
            default: {
                int minutes = near(0, 60);
                if (random.nextInt(4) == 0) due("rest " + minutes, year.rest(minutes), oracle.rest(minutes));
            }
        }
    }

    private void rows() {
        for (int t = -1; t < 4; t++) {
            for (int i = -1; i < 7; i++) {
                if (year.row(t, i) != oracle.row(t, i)) {
                    due("row " + t + " " + i, year.row(t, i), oracle.row(t, i));
                }
            }
        }
    }

    private void about(int t, int what) {
        long got;
        try {
            got = year.about(t, what);
        } catch (NoSuchElementException e) {
            got = -99;
        }
        long want;
        try {
            want = oracle.about(t, what);
        } catch (NoSuchElementException e) {
            want = -99;
        }
        due("about " + t + " " + what, got, want);
    }

    private void feed(String text) {
        int[] words = new int[5];
        for (int i = 0; i < text.length() && i < 20; i++) {
            words[i / 4] |= text.charAt(i) << 8 * (3 - i % 4);
        }
        due("feed '" + text + "'", year.feed(words[0], words[1], words[2], words[3], words[4]), oracle.feed(words));
    }

    private String sum(int depth) {
        StringBuilder s = new StringBuilder(atom(depth));
        for (int i = random.nextInt(4); i > 0; i--) {
            s.append(blank()).append("+-*/".charAt(random.nextInt(4))).append(blank()).append(atom(depth));
        }
        return s.toString();
    }

    private String blank() {
        return random.nextInt(8) == 0 ? " " : "";
    }

    private String atom(int depth) {
        int kind = random.nextInt(10);
        if (kind < 2 && depth < 6) {
            return "(" + sum(depth + 1) + ")";
        }
        return kind < 6 ? "" + random.nextInt(kind == 5 ? 10000 : 70) : "" + "clrgdh".charAt(random.nextInt(6));
    }

    private String text() {
        StringBuilder s = new StringBuilder(blank());
        for (int i = random.nextInt(3); i >= 0; i--) {
            if (random.nextBoolean()) {
                for (int k = random.nextInt(2); k >= 0; k--) {
                    s.append(sum(1)).append("=<>".charAt(random.nextInt(3))).append(sum(2)).append(k == 0 ? "?" : "&");
                }
            }
            s.append(sum(0)).append(i == 0 ? "" : ";");
        }
        if (random.nextInt(5) == 0) {
            int at = random.nextInt(s.length());
            s.setCharAt(at, random.nextInt(3) == 0 ? (char) (1 + random.nextInt(255)) : " ()+*/-=<>?&;c109".charAt(random.nextInt(17)));
        }
        return s.append(blank()).toString();
    }

    private void wages() {
        int w = anyWeek();
        switch (random.nextInt(5)) {
            case 0: case 1: {
                if (random.nextInt(4) > 0) {
                    int n = random.nextInt(5) == 0 ? near(0, oracle.tape.length()) : 0;
                    due("end " + n, year.end(n), oracle.end(n));
                }
                String text = text();
                for (int i = 0; i < text.length(); i += 20) {
                    feed(text.substring(i, Math.min(text.length(), i + 20)));
                }
                due("fault", year.fault(), oracle.fault());
                if (random.nextInt(3) > 0 && (flavour == 1 || oracle.terms.size() < 2 + oracle.w)) {
                    due("terms " + w, year.terms(w), oracle.terms(w));
                }
                break;
            }
            case 2: {
                int q = near(0, oracle.w);
                due("force " + w + " " + q, year.force(w, q), oracle.force(w, q));
                break;
            }
            case 3: {
                int n = near(0, Math.max(0, oracle.terms.size() - 1));
                for (int c = 0; c < oracle.cs.size(); c++) {
                    if (year.pay(n, w, c) != oracle.pay(n, w, c) || c == 0) {
                        due("pay " + n + " " + w + " " + c, year.pay(n, w, c), oracle.pay(n, w, c));
                    }
                }
                break;
            }
            default: {
                int i = near(0, Math.max(0, oracle.lines.size() - 1)), what = near(0, 4);
                due("line " + i + " " + what, year.line(i, what), oracle.line(i, what));
            }
        }
    }

    private void books() {
        int c = anyCottage(), b = anyBooking(), t = anyTeam();
        switch (random.nextInt(9)) {
            case 0: case 1: {
                int x = near(0, 99), y = near(0, 99), z = near(0, 99);
                due("look " + c + " " + x + " " + y + " " + z, year.look(c, x, y, z), oracle.look(c, x, y, z));
                break;
            }
            case 2: {
                int thing = near(0, 2), coins = near(0, 100);
                due("worth " + thing + " " + coins, year.worth(thing, coins), oracle.worth(thing, coins));
                break;
            }
            case 3: {
                int thing = near(0, 2);
                due("lost " + b + " " + thing, year.lost(b, thing), oracle.lost(b, thing));
                due("kept " + b, year.kept(b), oracle.kept(b));
                break;
            }
            case 4: case 5: {
                int kind = near(0, 3);
                due("complain " + b + " " + kind, year.complain(b, kind), oracle.complain(b, kind));
                due("blamed " + t + " " + kind, year.blamed(t, kind), oracle.blamed(t, kind));
                break;
            }
            case 6: {
                int n = 1 + random.nextInt(3) - random.nextInt(2);
                long seed = random.nextLong();
                due("draw " + n + " " + seed, year.draw(n, seed), oracle.draw(n, seed));
                break;
            }
            case 7: due("code " + b, year.code(b), oracle.code(b)); break;
            default: {
                int code = oracle.bs.isEmpty() ? 0 : oracle.code(random.nextInt(oracle.bs.size()));
                int minute = near(0, oracle.now);
                for (int i = 0; i < oracle.cs.size(); i++) {
                    if (oracle.door(i, code, minute) || i == 0) {
                        due("door " + i + " " + code + " " + minute, year.door(i, code, minute), oracle.door(i, code, minute));
                    }
                }
            }
        }
    }

    private void looksAround() {
        int what = near(0, 14);
        due("count " + what, year.count(what), oracle.count(what));
        int place = near(0, 4);
        due("sets " + place, year.sets(place), oracle.sets(place));
        if (random.nextInt(20) == 0) {
            cottage();
        }
        if (random.nextInt(20) == 0) {
            team();
        }
        if (random.nextInt(10) == 0) {
            int sets = near(0, 200), wash = near(0, 100);
            due("linen " + sets + " " + wash, year.linen(sets, wash), oracle.linen(sets, wash));
        }
    }
}
