import java.util.ArrayList;
import java.util.List;
import java.util.NoSuchElementException;
import java.util.function.Function;

/** What can be seen of a year, in looks of some 250 calls at most; some of them use the year up. */
final class Seen {
    private final CottageYear year;
    private final List<String> answers = new ArrayList<>();

    private Seen(CottageYear year) {
        this.year = year;
    }

    static List<Function<CottageYear, List<String>>> looks() {
        List<Function<CottageYear, List<String>>> looks = new ArrayList<>();
        looks.add(year -> new Seen(year).counts());
        for (int first = 0; first < 60; first += 10) {
            int from = first;
            looks.add(year -> new Seen(year).bookings(from));
        }
        looks.add(year -> new Seen(year).jobs());
        looks.add(year -> new Seen(year).weeks());
        looks.add(year -> new Seen(year).wages());
        looks.add(year -> new Seen(year).tape());
        looks.add(year -> new Seen(year).shutWeeks());
        looks.add(year -> new Seen(year).doors());
        looks.add(year -> new Seen(year).draws());
        looks.add(year -> new Seen(year).later());
        return looks;
    }

    private void add(String call, long answer) {
        answers.add(call + " = " + answer);
    }

    private void add(String call, boolean answer) {
        add(call, answer ? 1 : 0);
    }

    private List<String> counts() {
        for (int what = 0; what < 15; what++) {
            add("count(" + what + ")", year.count(what));
        }
        add("fewest()", year.fewest());
        add("taken(0, 51)", year.taken(0, 51));
        sets();
        teams();
        return answers;
    }

    private void sets() {
        for (int what = 0; what < 5; what++) {
            add("sets(" + what + ")", year.sets(what));
        }
    }

    private void teams() {
        for (int what = 0; what < 3; what++) {
            add("best(" + what + ")", year.best(what));
        }
        for (int team = 0; team < 3; team++) {
            for (int what = 0; what < 6; what++) {
                add("about(" + team + ", " + what + ")", about(team, what));
            }
            for (int i = 0; i < 8; i++) {
                add("row(" + team + ", " + i + ")", year.row(team, i));
            }
            for (int kind = 0; kind < 4; kind++) {
                add("blamed(" + team + ", " + kind + ")", year.blamed(team, kind));
            }
        }
    }

    private int about(int team, int what) {
        try {
            return year.about(team, what);
        } catch (NoSuchElementException thrown) {
            return Years.THROWN;
        }
    }

    private List<String> bookings(int first) {
        for (int i = first; i < first + 10 && i < year.count(4); i++) {
            for (int what = 0; what < 10; what++) {
                add("booked(" + i + ", " + what + ")", year.booked(i, what));
            }
            for (int thing = 0; thing < 3; thing++) {
                add("lost(" + i + ", " + thing + ")", year.lost(i, thing));
            }
            add("moved(" + i + ")", year.moved(i));
            add("kept(" + i + ")", year.kept(i));
            add("code(" + i + ")", year.code(i));
        }
        return answers;
    }

    private List<String> jobs() {
        int last = year.count(0);
        for (int week = Math.max(0, last - 1); week <= last; week++) {
            for (int c = 0; c < 7; c++) {
                for (int what = 0; what < 10; what++) {
                    add("job(" + week + ", " + c + ", " + what + ")", year.job(week, c, what));
                }
            }
        }
        return answers;
    }

    private List<String> weeks() {
        int known = Math.min(51, year.count(0));
        for (int week = 0; week < 52; week++) {
            add("moves(" + week + ", 0)", year.moves(week, 0));
            add("moves(" + week + ", 1)", year.moves(week, 1));
            add("force(" + week + ", " + known + ")", year.force(week, known));
        }
        return answers;
    }

    private List<String> wages() {
        int week = Math.min(51, year.count(0));
        for (int i = 0; i < year.count(8) && i < 20; i++) {
            for (int what = 0; what < 5; what++) {
                add("line(" + i + ", " + what + ")", year.line(i, what));
            }
        }
        for (int terms = 0; terms < year.count(7); terms++) {
            for (int c = 0; c < 7; c++) {
                add("pay(" + terms + ", " + week + ", " + c + ")", year.pay(terms, week, c));
            }
        }
        return answers;
    }

    /** The FAULTS of all beginnings of the TAPE tell its bytes, one kind from the other. */
    private List<String> tape() {
        for (int n = year.count(14); n >= 0; n--) {
            add("fault() of " + n, year.fault());
            year.end(n - 1);
        }
        return answers;
    }

    private List<String> shutWeeks() {
        int first = year.count(0);
        for (int c = 0; c < 7; c++) {
            for (int week = first; week < first + 5; week++) {
                add("shut(" + c + ", " + week + ", true)", year.shut(c, week, true));
            }
            add("shut(" + c + ", 51, true)", year.shut(c, 51, true));
        }
        return answers;
    }

    private List<String> doors() {
        int now = year.count(2);
        for (int i = 0; i < year.count(4) && i < 15; i++) {
            int code = year.code(i);
            int c = year.booked(i, 0);
            for (int minute : new int[] {0, 599, 600, 601, 959, 960, now - 1, now}) {
                add("door(" + c + ", " + code + ", " + minute + ")", year.door(c, code, minute));
            }
        }
        return answers;
    }

    private List<String> draws() {
        for (int n = 1; n <= 7; n++) {
            for (int seed = 0; seed < 12; seed++) {
                add("draw(" + n + ", " + seed + ")", year.draw(n, seed));
            }
        }
        return answers;
    }

    /** The year goes on for two DAYS: so also what no call answers by itself (RENTS, WAYS, REST, WASH, CODES) is seen. */
    private List<String> later() {
        finishDay();
        int week = year.count(0);
        for (int i = 0; i < 2; i++) {
            for (int c = 0; c < 7; c++) {
                int booking = year.book(c, week + i, 1, false, 5);
                add("book(" + c + ", " + (week + i) + ", 1, false, 5)", booking);
                add("its price", year.booked(booking, 5));
            }
        }
        for (int i = 0; i < 2; i++) {
            add("openDay()", year.openDay());
            for (int booking = Math.max(0, year.count(4) - 8); booking < year.count(4); booking++) {
                add("code(" + booking + ")", year.code(booking));
            }
            finishDay();
        }
        sets();
        for (int i = 0; i < 3; i++) {
            add("line(" + i + ", 4)", year.line(i, 4));
        }
        return answers;
    }

    private void finishDay() {
        add("plan()", year.plan());
        for (int what = 0; what < 3; what++) {
            add("best(" + what + ")", year.best(what));
        }
        for (int team = 0; team < 3; team++) {
            add("row(" + team + ", 0)", year.row(team, 0));
        }
        add("tick(500)", year.tick(500));
        add("tick(300)", year.tick(300));
        for (int team = 0; team < 3; team++) {
            for (int what = 0; what < 6; what++) {
                add("about(" + team + ", " + what + ")", about(team, what));
            }
        }
        sets();
        add("closeDay()", year.closeDay());
        add("count(9)", year.count(9));
    }
}
