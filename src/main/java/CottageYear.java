import java.util.Arrays;
import java.util.NoSuchElementException;

/** A year of changeover days of holiday cottages; ../shared/DOC.md says what each call answers. */
public final class CottageYear {
    public static final int NONE = -1;

    private static final int WEEKS = 52;
    private static final int MOST_COTTAGES = 7;
    private static final int MOST_BOOKINGS = 60;
    private static final int MOST_TEAMS = 3;
    private static final int MOST_COMPLAINTS = 60;
    private static final int LAST_MINUTE = 1440;
    private static final int GUESTS_COME = 960;
    private static final int GUESTS_LEAVE = 600;
    private static final int NO_LINE = -1000000;
    private static final int REFUSED_COMPLAINT = -2;
    private static final int DIRT = 0;
    private static final int LATE = 1;
    private static final int KINDS = 4;
    private static final int THINGS = 3;
    private static final int CODES = 10000;
    private static final int MOST_TRIES = 1000000;
    private static final long STEP_TIMES = 6364136223846793005L;
    private static final long STEP_PLUS = 1442695040888963407L;

    private final Cottage[] cottages = new Cottage[MOST_COTTAGES];
    private int cottageCount;
    private final Booking[] bookings = new Booking[MOST_BOOKINGS];
    private int bookingCount;
    private final Team[] teams = new Team[MOST_TEAMS];
    private int teamCount;
    private int complaintCount;

    private int week;
    private boolean open;
    private int now;
    /** The STAY of each WEEK and COTTAGE, once its DAY was opened. */
    private final Booking[] stays = new Booking[WEEKS * MOST_COTTAGES];
    /** The JOBS of the open DAY, by COTTAGES. */
    private final Job[] jobs = new Job[MOST_COTTAGES];
    private long codeStep = 1;

    private final Moves mover = new Moves();
    private final Planner planner = new Planner();
    private final Laundry laundry = new Laundry();
    private final Books books = new Books();
    private final Wages wages = new Wages();

    public CottageYear() {
    }

    // ---- cottages and bookings

    public int cottage(int beds, boolean dogs, int rent, int minutes) {
        boolean fits = within(beds, 1, 12) && within(rent, 1, 2000) && within(minutes, 10, 240);
        if (!fits || open || cottageCount >= MOST_COTTAGES) {
            return NONE;
        }
        cottages[cottageCount] = new Cottage(beds, dogs, rent, minutes);
        cottageCount++;
        return cottageCount - 1;
    }

    public boolean rent(int cottage, int coins) {
        Cottage house = cottageAt(cottage);
        if (house == null || !within(coins, 1, 2000)) {
            return false;
        }
        house.rent = coins;
        return true;
    }

    public int book(int cottage, int week, int guests, boolean dog, int deposit) {
        Cottage house = cottageAt(cottage);
        if (house == null || !isToCome(week) || !house.takes(guests, dog) || !within(deposit, 0, 1000)) {
            return NONE;
        }
        if (bookingCount >= MOST_BOOKINGS || isLet(cottage, week)) {
            return NONE;
        }
        bookings[bookingCount] = new Booking(cottage, week, guests, dog, deposit, house.rent);
        bookingCount++;
        return bookingCount - 1;
    }

    public boolean cancel(int booking) {
        Booking of = bookingAt(booking);
        if (of == null || !of.inForce || !isToCome(of.week)) {
            return false;
        }
        of.inForce = false;
        return true;
    }

    public boolean shut(int cottage, int week, boolean is) {
        Cottage house = cottageAt(cottage);
        if (house == null || !isToCome(week) || house.isShut(week) == is) {
            return false;
        }
        house.setShut(week, is);
        return true;
    }

    public int moves(int week, int what) {
        if (!isToCome(week) || !within(what, 0, 1)) {
            return NONE;
        }
        findMoves(week);
        return what == 0 ? mover.mostMoved : mover.leastApart;
    }

    public int moved(int booking) {
        Booking of = bookingAt(booking);
        if (of == null || !of.inForce || !isToCome(of.week)) {
            return NONE;
        }
        findMoves(of.week);
        return mover.goalOf(of);
    }

    public int move(int week) {
        if (!isToCome(week)) {
            return NONE;
        }
        findMoves(week);
        mover.carryOut();
        return mover.mostMoved;
    }

    public int booked(int booking, int what) {
        Booking of = bookingAt(booking);
        return of == null ? NONE : of.detail(what);
    }

    public int taken(int first, int last) {
        if (!isWeek(first) || !isWeek(last) || last < first) {
            return NONE;
        }
        int sum = 0;
        for (int i = 0; i < bookingCount; i++) {
            Booking of = bookings[i];
            if (of.begun && within(of.week, first, last)) {
                sum += of.price;
            }
        }
        return sum;
    }

    // ---- the day, its teams and their plan

    public int team(int load) {
        if (!within(load, 12, 30) || open || teamCount >= MOST_TEAMS) {
            return NONE;
        }
        teams[teamCount] = new Team(teamCount, load);
        teamCount++;
        return teamCount - 1;
    }

    public boolean way(int one, int other, int minutes) {
        boolean places = within(one, 0, MOST_COTTAGES) && within(other, 0, MOST_COTTAGES) && one != other;
        if (!places || !within(minutes, 0, 90)) {
            return false;
        }
        planner.roads.tell(one, other, minutes);
        planner.forget();
        return true;
    }

    public boolean rest(int minutes) {
        if (!within(minutes, 0, 60)) {
            return false;
        }
        planner.roads.loading = minutes;
        planner.forget();
        return true;
    }

    public int openDay() {
        if (open || week >= WEEKS) {
            return NONE;
        }
        open = true;
        now = 0;
        beginStays();
        int made = makeJobs();
        laundry.sendOut(guestsWhoCome());
        giveCodes();
        for (int t = 0; t < teamCount; t++) {
            teams[t].startDay();
        }
        planner.forget();
        return made;
    }

    public int closeDay() {
        if (!open || !draftLines()) {
            return NONE;
        }
        laundry.takeBack();
        int lines = wages.enterDrafts();
        open = false;
        week++;
        return lines;
    }

    public boolean late(int cottage, int out) {
        Job job = jobToBegin(cottage);
        if (job == null || !within(out, now, LAST_MINUTE)) {
            return false;
        }
        job.out = out;
        planner.forget();
        return true;
    }

    public boolean state(int cottage, int minutes) {
        Job job = jobToBegin(cottage);
        if (job == null || !within(minutes, 1, 400)) {
            return false;
        }
        job.clean = minutes;
        planner.forget();
        return true;
    }

    public int best(int what) {
        if (!within(what, 0, 2) || !findPlan()) {
            return NONE;
        }
        return planner.costPart(what);
    }

    public boolean plan() {
        if (!findPlan()) {
            return false;
        }
        for (int t = 0; t < teamCount; t++) {
            planner.copyRow(teams[t]);
        }
        planner.forget();
        return true;
    }

    public int row(int team, int i) {
        Team of = teamAt(team);
        return open && of != null ? of.rowAt(i) : NONE;
    }

    public int tick(int n) {
        if (!open || !within(n, 0, 500) || now + n > LAST_MINUTE) {
            return NONE;
        }
        for (int i = 0; i < n; i++) {
            now++;
            for (int t = 0; t < teamCount; t++) {
                teams[t].passMinute(jobs, planner.roads, now);
            }
        }
        if (n > 0) {
            planner.forget();
        }
        return now;
    }

    public int about(int team, int what) throws NoSuchElementException {
        Team of = teamAt(team);
        if (!open || of == null || !within(what, 0, 5)) {
            throw new NoSuchElementException();
        }
        return of.detail(what);
    }

    public int job(int week, int cottage, int what) {
        Job job = jobOf(week, cottage);
        return job == null ? NONE : job.detail(what);
    }

    // ---- linen

    public boolean linen(int sets, int wash) {
        if (!within(sets, 0, 200) || !within(wash, 0, 100) || open || week > 0) {
            return false;
        }
        laundry.clean = sets;
        laundry.wash = wash;
        return true;
    }

    public int sets(int what) {
        return laundry.detail(what);
    }

    public int fewest() {
        return laundry.fewestSets(bookings, bookingCount);
    }

    // ---- terms, pay and lines

    public int feed(int a, int b, int c, int d, int e) {
        int more = Text.bytesOf(a) + Text.bytesOf(b) + Text.bytesOf(c) + Text.bytesOf(d) + Text.bytesOf(e);
        Text tape = wages.tape;
        if (tape.length + more > Text.MOST) {
            return NONE;
        }
        tape.addBytes(a);
        tape.addBytes(b);
        tape.addBytes(c);
        tape.addBytes(d);
        tape.addBytes(e);
        return tape.length;
    }

    public boolean end(int n) {
        if (!within(n, 0, wages.tape.length)) {
            return false;
        }
        wages.tape.length = n;
        return true;
    }

    public int fault() {
        return wages.tape.firstFault();
    }

    public int terms(int from) {
        if (!isWeek(from) || wages.hasAllTerms() || week >= WEEKS || wages.tape.firstFault() != NONE) {
            return NONE;
        }
        return wages.keepTape(from, week);
    }

    public int force(int week, int q) {
        if (!isWeek(week) || !isWeek(q) || q > this.week) {
            return NONE;
        }
        return wages.termsFor(week, q);
    }

    public int pay(int terms, int week, int cottage) {
        Job job = jobOf(week, cottage);
        if (job == null || !job.isReady()) {
            return NONE;
        }
        return wages.coinsBy(terms, job);
    }

    public int line(int i, int what) {
        return wages.lineDetail(i, what);
    }

    // ---- books, complaints, drawing and codes

    public int look(int cottage, int a, int b, int c) {
        boolean things = within(a, 0, 99) && within(b, 0, 99) && within(c, 0, 99);
        if (cottageAt(cottage) == null || !things || books.isFull()) {
            return NONE;
        }
        books.addLook(cottage, a, b, c);
        return books.lookCount;
    }

    public boolean worth(int thing, int coins) {
        if (!within(thing, 0, THINGS - 1) || !within(coins, 0, 100)) {
            return false;
        }
        books.worths[thing] = coins;
        return true;
    }

    public int lost(int booking, int thing) {
        Booking of = begunAt(booking);
        if (of == null || !within(thing, 0, THINGS - 1)) {
            return NONE;
        }
        return books.lostAt(of.entry, thing);
    }

    public int kept(int booking) {
        Booking of = begunAt(booking);
        return of == null ? NONE : Math.min(books.lostCoins(of.entry), of.deposit);
    }

    public int complain(int booking, int kind) {
        Booking of = begunAt(booking);
        if (of == null || !within(kind, 0, KINDS - 1) || complaintCount >= MOST_COMPLAINTS) {
            return REFUSED_COMPLAINT;
        }
        complaintCount++;
        of.complaints++;
        Team blamed = teamToBlame(of, kind);
        if (blamed == null) {
            return NONE;
        }
        blamed.blames[kind]++;
        return blamed.number;
    }

    public int blamed(int team, int kind) {
        Team of = teamAt(team);
        return of == null || !within(kind, 0, KINDS - 1) ? NONE : of.blames[kind];
    }

    public int draw(int n, long seed) {
        if (!open || n < 1 || n > readyJobs()) {
            return NONE;
        }
        int drawn = 0;
        long x = seed;
        for (int i = 0; i < n && i < MOST_COTTAGES; i++) {
            x = x * STEP_TIMES + STEP_PLUS;
            drawn |= drawOne(drawn, x >>> 33);
        }
        return drawn;
    }

    public int code(int booking) {
        Booking of = begunAt(booking);
        return of == null ? NONE : of.code;
    }

    public boolean door(int cottage, int code, int minute) {
        if (!open || cottageAt(cottage) == null || !within(minute, 0, now)) {
            return false;
        }
        Job job = jobs[cottage];
        Booking comes = stayOf(week, cottage);
        if (comes != null && comes.code == code) {
            return job == null ? minute >= GUESTS_COME : job.isReady() && minute >= job.ready;
        }
        return job != null && job.leaves.code == code && minute < job.out;
    }

    public int count(int what) {
        switch (what) {
            case 0: return week;
            case 1: return open ? 1 : 0;
            case 2: return open ? now : NONE;
            case 3: return cottageCount;
            case 4: return bookingCount;
            case 5: return bookingsInForce();
            case 6: return teamCount;
            case 7: return wages.termsCount;
            case 8: return wages.lineCount;
            case 9: return wages.lineSum;
            case 10: return books.lookCount;
            case 11: return complaintCount;
            case 12: return jobsLeftOut();
            case 13: return lateMinutes();
            case 14: return wages.tape.length;
            default: return NONE;
        }
    }

    // ---- what the calls above share

    private static boolean within(int value, int least, int most) {
        return value >= least && value <= most;
    }

    private static boolean isWeek(int week) {
        return within(week, 0, WEEKS - 1);
    }

    /** Whether a WEEK is W or later, its DAY not opened. */
    private boolean isToCome(int of) {
        return isWeek(of) && (open ? of > week : of >= week);
    }

    private Cottage cottageAt(int i) {
        return within(i, 0, cottageCount - 1) ? cottages[i] : null;
    }

    private Booking bookingAt(int i) {
        return within(i, 0, bookingCount - 1) ? bookings[i] : null;
    }

    private Booking begunAt(int i) {
        Booking of = bookingAt(i);
        return of != null && of.begun ? of : null;
    }

    private Team teamAt(int i) {
        return within(i, 0, teamCount - 1) ? teams[i] : null;
    }

    private Booking stayOf(int of, int cottage) {
        return isWeek(of) && cottageAt(cottage) != null ? stays[of * MOST_COTTAGES + cottage] : null;
    }

    /** The JOB of a COTTAGE on the DAY of a WEEK: it hangs on the STAY that left then. */
    private Job jobOf(int of, int cottage) {
        Booking left = isWeek(of) ? stayOf(of - 1, cottage) : null;
        return left == null ? null : left.job;
    }

    private Job jobToBegin(int cottage) {
        if (!open || cottageAt(cottage) == null) {
            return null;
        }
        Job job = jobs[cottage];
        return job != null && job.begun == NONE ? job : null;
    }

    private boolean isLet(int cottage, int of) {
        for (int i = 0; i < bookingCount; i++) {
            Booking other = bookings[i];
            if (other.inForce && other.cottage == cottage && other.week == of) {
                return true;
            }
        }
        return false;
    }

    private void findMoves(int of) {
        mover.clear();
        for (int c = 0; c < cottageCount; c++) {
            mover.addCottage(cottages[c], !cottages[c].isShut(of) && !isLet(c, of));
        }
        for (int i = 0; i < bookingCount; i++) {
            Booking one = bookings[i];
            if (one.inForce && one.week == of && cottages[one.cottage].isShut(of)) {
                mover.addBooking(one);
            }
        }
        mover.find();
    }

    private void beginStays() {
        for (int c = 0; c < cottageCount; c++) {
            for (int i = 0; i < bookingCount; i++) {
                Booking of = bookings[i];
                if (of.inForce && of.week == week && of.cottage == c && !cottages[c].isShut(week)) {
                    of.begun = true;
                    of.entry = books.addStay(c);
                    stays[week * MOST_COTTAGES + c] = of;
                }
            }
        }
    }

    private int makeJobs() {
        int made = 0;
        for (int c = 0; c < cottageCount; c++) {
            Booking leaves = stayOf(week - 1, c);
            jobs[c] = null;
            if (leaves != null) {
                leaves.job = new Job(leaves, stayOf(week, c), cottages[c].minutes);
                jobs[c] = leaves.job;
                made++;
            }
        }
        return made;
    }

    private int guestsWhoCome() {
        int guests = 0;
        for (int c = 0; c < cottageCount; c++) {
            Booking comes = stayOf(week, c);
            guests += comes == null ? 0 : comes.guests;
        }
        return guests;
    }

    private void giveCodes() {
        for (int c = 0; c < cottageCount; c++) {
            Booking comes = stayOf(week, c);
            if (comes != null) {
                comes.code = nextCode(cottages[c]);
                cottages[c].keepCode(comes.code);
            }
        }
    }

    private int nextCode(Cottage house) {
        int code = NONE;
        for (int i = 0; i < MOST_TRIES && (code == NONE || house.hadCode(code)); i++) {
            codeStep = codeStep * STEP_TIMES + STEP_PLUS;
            code = (int) ((codeStep >>> 33) % CODES);
        }
        return code;
    }

    private boolean findPlan() {
        if (!open) {
            return false;
        }
        if (!planner.known) {
            planner.gather(jobs, cottageCount, teams, teamCount);
            planner.find(jobs, teams, now);
        }
        return planner.possible();
    }

    /** Drafts the LINES of this closing; false if they are too many. */
    private boolean draftLines() {
        wages.dropDrafts();
        for (int w = 0; w <= week && w < WEEKS; w++) {
            int terms = wages.termsFor(w, week);
            for (int c = 0; c < cottageCount && terms != NONE; c++) {
                Job job = jobOf(w, c);
                if (job != null && job.isReady() && !wages.draft(week, job, wages.coinsBy(terms, job))) {
                    return false;
                }
            }
        }
        return true;
    }

    private Team teamToBlame(Booking of, int kind) {
        Job job = jobOf(of.week, of.cottage);
        if (job == null || !job.isReady()) {
            return null;
        }
        boolean cause = kind == DIRT || kind == LATE && job.lateness() > 0;
        return cause ? teamAt(job.team) : null;
    }

    private int readyJobs() {
        int ready = 0;
        for (int c = 0; c < cottageCount; c++) {
            if (jobs[c] != null && jobs[c].isReady()) {
                ready++;
            }
        }
        return ready;
    }

    private int weightOf(int cottage, int drawn) {
        Job job = jobs[cottage];
        if (job == null || !job.isReady() || (drawn >>> cottage & 1) != 0) {
            return 0;
        }
        Team by = teamAt(job.team);
        return by == null ? 1 : 1 + by.blames[DIRT] + by.blames[LATE];
    }

    /** The bit of the COTTAGE within whose weight a number lies. */
    private int drawOne(int drawn, long number) {
        int sum = 0;
        for (int c = 0; c < cottageCount; c++) {
            sum += weightOf(c, drawn);
        }
        if (sum <= 0) {
            return 0;
        }
        int place = (int) (number % sum);
        for (int c = 0; c < cottageCount; c++) {
            place -= weightOf(c, drawn);
            if (place < 0) {
                return 1 << c;
            }
        }
        return 0;
    }

    private int bookingsInForce() {
        int inForce = 0;
        for (int i = 0; i < bookingCount; i++) {
            inForce += bookings[i].inForce ? 1 : 0;
        }
        return inForce;
    }

    private int jobsLeftOut() {
        int leftOut = 0;
        for (int i = 0; i < bookingCount; i++) {
            Job job = bookings[i].job;
            leftOut += job != null && job.week < week && !job.isReady() ? 1 : 0;
        }
        return leftOut;
    }

    private int lateMinutes() {
        int minutes = 0;
        for (int i = 0; i < bookingCount; i++) {
            Job job = bookings[i].job;
            minutes += job != null && job.isReady() ? job.lateness() : 0;
        }
        return minutes;
    }

    private static final class Cottage {
        final int beds;
        final boolean dogs;
        final int minutes;
        int rent;
        private long shutWeeks;
        /** The CODES of the last three STAYS. */
        private int lastCode = NONE;
        private int secondCode = NONE;
        private int thirdCode = NONE;

        Cottage(int beds, boolean dogs, int rent, int minutes) {
            this.beds = beds;
            this.dogs = dogs;
            this.rent = rent;
            this.minutes = minutes;
        }

        boolean takes(int guests, boolean dog) {
            return guests >= 1 && guests <= beds && (dogs || !dog);
        }

        boolean isShut(int week) {
            return (shutWeeks >>> week & 1) != 0;
        }

        void setShut(int week, boolean is) {
            shutWeeks = is ? shutWeeks | 1L << week : shutWeeks & ~(1L << week);
        }

        boolean hadCode(int code) {
            return code == lastCode || code == secondCode || code == thirdCode;
        }

        void keepCode(int code) {
            thirdCode = secondCode;
            secondCode = lastCode;
            lastCode = code;
        }
    }

    private static final class Booking {
        int cottage;
        final int week;
        final int guests;
        final boolean dog;
        final int deposit;
        final int price;
        boolean inForce = true;
        boolean begun;
        int complaints;
        int timesMoved;
        int code = NONE;
        /** Where its STAY stands in the BOOKS. */
        int entry = NONE;
        /** The JOB that its STAY leaves behind, once that DAY was opened. */
        Job job;

        Booking(int cottage, int week, int guests, boolean dog, int deposit, int price) {
            this.cottage = cottage;
            this.week = week;
            this.guests = guests;
            this.dog = dog;
            this.deposit = deposit;
            this.price = price;
        }

        int detail(int what) {
            switch (what) {
                case 0: return cottage;
                case 1: return week;
                case 2: return guests;
                case 3: return dog ? 1 : 0;
                case 4: return deposit;
                case 5: return price;
                case 6: return inForce ? 1 : 0;
                case 7: return begun ? 1 : 0;
                case 8: return complaints;
                case 9: return timesMoved;
                default: return NONE;
            }
        }
    }

    private static final class Job {
        final Booking leaves;
        final int cottage;
        final int week;
        final int due;
        final int linen;
        int out = GUESTS_LEAVE;
        int clean;
        int begun = NONE;
        int ready = NONE;
        int team = NONE;
        int travel;
        int booked;

        Job(Booking leaves, Booking comes, int minutes) {
            this.leaves = leaves;
            cottage = leaves.cottage;
            week = leaves.week + 1;
            due = comes == null ? LAST_MINUTE : GUESTS_COME;
            linen = comes == null ? 0 : comes.guests;
            clean = minutes + 3 * leaves.guests + (leaves.dog ? 20 : 0);
        }

        boolean isReady() {
            return ready != NONE;
        }

        int lateness() {
            return isReady() ? Math.max(0, ready - due) : NONE;
        }

        int detail(int what) {
            switch (what) {
                case 0: return out;
                case 1: return due;
                case 2: return clean;
                case 3: return linen;
                case 4: return begun;
                case 5: return ready;
                case 6: return lateness();
                case 7: return team;
                case 8: return travel;
                case 9: return booked;
                default: return NONE;
            }
        }
    }

    private static final class Roads {
        private static final int PLACES = MOST_COTTAGES + 1;

        private final int[] ways = new int[PLACES * PLACES];
        int loading = 5;

        Roads() {
            Arrays.fill(ways, 10);
            for (int place = 0; place < PLACES; place++) {
                ways[place * PLACES + place] = 0;
            }
        }

        void tell(int one, int other, int minutes) {
            ways[one * PLACES + other] = minutes;
            ways[other * PLACES + one] = minutes;
        }

        int minutes(int from, int to, boolean byBase) {
            if (byBase) {
                return ways[from * PLACES] + loading + ways[to];
            }
            return ways[from * PLACES + to];
        }
    }

    private static final class Team {
        private static final int NOTHING = 0;
        private static final int ON_ITS_WAY = 1;
        private static final int WAITING = 2;
        private static final int CLEANING = 3;
        private static final int MOST_STEPS = 100;

        final int number;
        final int load;
        final int[] blames = new int[KINDS];
        final int[] row = new int[MOST_COTTAGES];
        int rowLength;
        int left;
        int place;
        private int about;
        private int cottage;
        private int till;
        private int travel;

        Team(int number, int load) {
            this.number = number;
            this.load = load;
        }

        void startDay() {
            rowLength = 0;
            left = load;
            place = 0;
            travel = 0;
            rests();
        }

        private void rests() {
            about = NOTHING;
            cottage = NONE;
            till = NONE;
        }

        int rowAt(int i) {
            return i >= 0 && i < rowLength ? row[i] : NONE;
        }

        boolean hasInRow(int of) {
            for (int i = 0; i < rowLength; i++) {
                if (row[i] == of) {
                    return true;
                }
            }
            return false;
        }

        int detail(int what) {
            switch (what) {
                case 0: return about;
                case 1: return cottage;
                case 2: return till;
                case 3: return left;
                case 4: return place;
                case 5: return travel;
                default: return NONE;
            }
        }

        /** When what it is about will be READY, as all is told now. */
        int freeAt(Job[] jobs, int now) {
            Job job = jobAmong(jobs, cottage);
            if (job == null || about == NOTHING) {
                return now;
            }
            if (about == CLEANING) {
                return till;
            }
            int there = about == ON_ITS_WAY ? till : now;
            return Math.max(there, job.out) + job.clean;
        }

        void passMinute(Job[] jobs, Roads roads, int now) {
            boolean more = true;
            for (int i = 0; i < MOST_STEPS && more; i++) {
                more = step(jobs, roads, now);
            }
        }

        private boolean step(Job[] jobs, Roads roads, int now) {
            if (about == NOTHING) {
                return rowLength > 0 && go(jobAmong(jobs, row[0]), roads, now);
            }
            Job job = jobAmong(jobs, cottage);
            if (job == null) {
                return false;
            }
            if (about == WAITING) {
                return job.out <= now && begin(job, now);
            }
            if (till > now) {
                return false;
            }
            if (about == ON_ITS_WAY) {
                about = WAITING;
                till = NONE;
            } else {
                job.ready = now;
                rests();
            }
            return true;
        }

        private static Job jobAmong(Job[] jobs, int of) {
            return of >= 0 && of < jobs.length ? jobs[of] : null;
        }

        private boolean begin(Job job, int now) {
            about = CLEANING;
            till = now + job.clean;
            job.begun = now;
            return true;
        }

        private boolean go(Job job, Roads roads, int now) {
            if (job == null) {
                return false;
            }
            for (int i = 1; i < rowLength; i++) {
                row[i - 1] = row[i];
            }
            rowLength--;
            boolean byBase = left < job.linen;
            job.team = number;
            job.travel = roads.minutes(place, 1 + job.cottage, byBase);
            travel += job.travel;
            left = (byBase ? load : left) - job.linen;
            place = 1 + job.cottage;
            about = ON_ITS_WAY;
            cottage = job.cottage;
            till = now + job.travel;
            return true;
        }
    }

    /** Finds MOVES for a WEEK. */
    private static final class Moves {
        private final Cottage[] houses = new Cottage[MOST_COTTAGES];
        private final boolean[] free = new boolean[MOST_COTTAGES];
        private int houseCount;
        private final Booking[] guests = new Booking[MOST_COTTAGES];
        private int guestCount;
        private final int[] tried = new int[MOST_COTTAGES];
        private final int[] goals = new int[MOST_COTTAGES];
        int mostMoved;
        int leastApart;

        void clear() {
            houseCount = 0;
            guestCount = 0;
        }

        void addCottage(Cottage house, boolean isFree) {
            if (houseCount < MOST_COTTAGES) {
                houses[houseCount] = house;
                free[houseCount] = isFree;
                houseCount++;
            }
        }

        void addBooking(Booking of) {
            if (guestCount < MOST_COTTAGES) {
                guests[guestCount] = of;
                guestCount++;
            }
        }

        void find() {
            mostMoved = NONE;
            leastApart = 0;
            place(0, 0, 0);
        }

        /** Tries the likelier goals first, so that of like moves the first one found stays. */
        private void place(int i, int many, int apart) {
            if (i >= guestCount || i >= MOST_COTTAGES) {
                keepIfBetter(many, apart);
                return;
            }
            Booking of = guests[i];
            for (int c = 0; c < houseCount; c++) {
                if (free[c] && houses[c].takes(of.guests, of.dog)) {
                    free[c] = false;
                    tried[i] = c;
                    place(i + 1, many + 1, apart + Math.abs(houses[c].rent - of.price));
                    free[c] = true;
                }
            }
            tried[i] = NONE;
            place(i + 1, many, apart);
        }

        private void keepIfBetter(int many, int apart) {
            if (many > mostMoved || many == mostMoved && apart < leastApart) {
                mostMoved = many;
                leastApart = apart;
                System.arraycopy(tried, 0, goals, 0, guestCount);
            }
        }

        int goalOf(Booking of) {
            for (int i = 0; i < guestCount; i++) {
                if (guests[i] == of) {
                    return goals[i];
                }
            }
            return NONE;
        }

        void carryOut() {
            for (int i = 0; i < guestCount; i++) {
                if (goals[i] != NONE) {
                    guests[i].cottage = goals[i];
                    guests[i].timesMoved++;
                }
            }
        }
    }

    /**
     * Finds the BEST PLAN: first, for each TEAM and each set of JOBS, the best row of just these;
     * then the best way to share all JOBS among the TEAMS.
     */
    private static final class Planner {
        private static final int MOST_JOBS = MOST_COTTAGES;
        private static final int SETS = 1 << MOST_JOBS;
        private static final int LABELS = 4;
        private static final long FAR = 1L << 60;
        private static final int NEVER = 1 << 30;
        /** A cost is LATE, then MOVED, then minutes, in one number. */
        private static final int LATE_SHIFT = 16;
        private static final int MOVED_SHIFT = 12;
        /** A row is seven octal digits; 7 is its end, so that the lower number is the likelier row. */
        private static final int EMPTY_ROW = (1 << 3 * MOST_JOBS) - 1;
        private static final int ROW_END = 7;

        final Roads roads = new Roads();
        private final Job[] todo = new Job[MOST_JOBS];
        private int todoCount;
        /** In whose row each JOB is in the PLAN at hand. */
        private final int[] before = new int[MOST_JOBS];
        private int teamCount;
        private final long[] costs = new long[MOST_TEAMS * SETS];
        private final int[] rows = new int[MOST_TEAMS * SETS];
        /** The row that is tried, by how many JOBS it has. */
        private final int[] time = new int[MOST_JOBS + 1];
        private final int[] place = new int[MOST_JOBS + 1];
        private final int[] left = new int[MOST_JOBS + 1];
        private final int[] packed = new int[MOST_JOBS + 1];
        private final long[] spent = new long[MOST_JOBS + 1];
        /** Rows tried already, by their set of JOBS and the last of these. */
        private final int[] labelTime = new int[SETS * MOST_JOBS * LABELS];
        private final int[] labelLeft = new int[SETS * MOST_JOBS * LABELS];
        private final long[] labelSpent = new long[SETS * MOST_JOBS * LABELS];
        private final int[] labelCount = new int[SETS * MOST_JOBS];
        /** BEST costs no more than this. */
        private long ceiling;
        private long bestCost;
        private final int[] bestRows = new int[MOST_TEAMS];
        boolean known;

        void forget() {
            known = false;
        }

        boolean possible() {
            return todoCount == 0 || teamCount > 0;
        }

        int costPart(int what) {
            long cost = bestCost;
            if (what == 0) {
                return (int) (cost >> LATE_SHIFT);
            }
            long rest = cost & (1L << LATE_SHIFT) - 1;
            return (int) (what == 1 ? rest >> MOVED_SHIFT : rest & (1L << MOVED_SHIFT) - 1);
        }

        void copyRow(Team team) {
            team.rowLength = 0;
            for (int i = 0; i < MOST_JOBS; i++) {
                int k = digit(bestRows[team.number], i);
                if (k >= todoCount) {
                    return;
                }
                team.row[i] = todo[k].cottage;
                team.rowLength = i + 1;
            }
        }

        private static int digit(int row, int i) {
            return row >>> shiftOf(i) & 7;
        }

        private static int shiftOf(int i) {
            return 3 * (MOST_JOBS - 1 - i);
        }

        void gather(Job[] jobs, int cottageCount, Team[] teams, int teamCount) {
            todoCount = 0;
            this.teamCount = teamCount;
            for (int c = 0; c < cottageCount && c < MOST_JOBS; c++) {
                if (jobs[c] != null && jobs[c].team == NONE) {
                    todo[todoCount] = jobs[c];
                    before[todoCount] = teamWith(teams, c);
                    todoCount++;
                }
            }
        }

        private int teamWith(Team[] teams, int cottage) {
            for (int t = 0; t < teamCount; t++) {
                if (teams[t].hasInRow(cottage)) {
                    return t;
                }
            }
            return NONE;
        }

        void find(Job[] jobs, Team[] teams, int now) {
            Arrays.fill(costs, FAR);
            for (int t = 0; t < MOST_TEAMS; t++) {
                costs[t * SETS] = 0;
                rows[t * SETS] = EMPTY_ROW;
            }
            ceiling = Math.min(costAtHand(jobs, teams, now), costInHaste(jobs, teams, now));
            for (int t = 0; t < teamCount; t++) {
                Arrays.fill(labelCount, 0);
                start(teams[t], 0, jobs, now);
                packed[0] = EMPTY_ROW;
                lengthen(teams[t], 0, 0);
            }
            share();
            known = true;
        }

        private void start(Team team, int at, Job[] jobs, int now) {
            time[at] = team.freeAt(jobs, now);
            place[at] = team.place;
            left[at] = team.left;
            spent[at] = 0;
        }

        /** What the PLAN at hand costs now: BEST costs no more. */
        private long costAtHand(Job[] jobs, Team[] teams, int now) {
            for (int k = 0; k < todoCount; k++) {
                if (before[k] == NONE) {
                    return FAR;
                }
            }
            long cost = 0;
            for (int t = 0; t < teamCount; t++) {
                start(teams[t], 0, jobs, now);
                for (int i = 0; i < teams[t].rowLength; i++) {
                    int k = indexOf(teams[t].row[i]);
                    if (k == NONE) {
                        return FAR;
                    }
                    putBehind(teams[t], i, i + 1, k);
                }
                cost += spent[teams[t].rowLength];
            }
            return cost;
        }

        private int indexOf(int cottage) {
            for (int k = 0; k < todoCount; k++) {
                if (todo[k].cottage == cottage) {
                    return k;
                }
            }
            return NONE;
        }

        /** What a PLAN costs that takes, again and again, the JOB that is soonest done: BEST costs no more. */
        private long costInHaste(Job[] jobs, Team[] teams, int now) {
            long cost = 0;
            for (int t = 0; t < teamCount; t++) {
                start(teams[t], t, jobs, now);
            }
            int all = (1 << todoCount) - 1;
            int done = 0;
            for (int i = 0; i < todoCount && teamCount > 0; i++) {
                done |= 1 << takeSoonest(teams, all & ~done);
            }
            for (int t = 0; t < teamCount; t++) {
                cost += spent[t];
            }
            return cost;
        }

        private int takeSoonest(Team[] teams, int open) {
            int soonest = 0;
            int by = 0;
            int least = NEVER;
            for (int k = 0; k < todoCount; k++) {
                for (int t = 0; t < teamCount && (open >>> k & 1) != 0; t++) {
                    putBehind(teams[t], t, MOST_TEAMS, k);
                    int when = time[MOST_TEAMS] + todo[k].due;
                    if (when < least) {
                        least = when;
                        soonest = k;
                        by = t;
                    }
                }
            }
            putBehind(teams[by], by, by, soonest);
            return soonest;
        }

        /** Tries the rows in their order, so that of like rows of one set the first one stays. */
        private void lengthen(Team team, int many, int set) {
            for (int k = 0; k < todoCount && many < MOST_JOBS; k++) {
                int more = set | 1 << k;
                if (more == set) {
                    continue;
                }
                putBehind(team, many, many + 1, k);
                if (spent[many + 1] <= ceiling && !isIdle(more, k, many + 1)) {
                    int shift = shiftOf(many);
                    packed[many + 1] = packed[many] & ~(ROW_END << shift) | k << shift;
                    keepRow(team.number * SETS + more, many + 1);
                    lengthen(team, many + 1, more);
                }
            }
        }

        /** Puts a JOB behind a row that stands at one place of the arrays; what comes of it stands at another. */
        private void putBehind(Team team, int at, int to, int k) {
            Job job = todo[k];
            boolean byBase = left[at] < job.linen;
            boolean isMoved = before[k] != NONE && before[k] != team.number;
            int minutes = roads.minutes(place[at], 1 + job.cottage, byBase);
            int ready = Math.max(time[at] + minutes, job.out) + job.clean;
            long late = Math.max(0, ready - job.due);
            time[to] = ready;
            place[to] = 1 + job.cottage;
            left[to] = (byBase ? team.load : left[at]) - job.linen;
            spent[to] = spent[at] + (late << LATE_SHIFT) + (isMoved ? 1 << MOVED_SHIFT : 0) + minutes;
        }

        /**
         * Whether a row tried earlier, of the same JOBS with the same one last and as many sets
         * LEFT, was no later and no dearer: then nothing behind this row can be better.
         */
        private boolean isIdle(int set, int last, int many) {
            int at = set * MOST_JOBS + last;
            int seen = labelCount[at];
            int first = at * LABELS;
            for (int i = first; i < first + seen && i < first + LABELS; i++) {
                if (labelLeft[i] == left[many] && labelTime[i] <= time[many] && labelSpent[i] <= spent[many]) {
                    return true;
                }
            }
            int slot = first + seen % LABELS;
            labelTime[slot] = time[many];
            labelLeft[slot] = left[many];
            labelSpent[slot] = spent[many];
            labelCount[at] = seen + 1;
            return false;
        }

        private void keepRow(int at, int many) {
            if (spent[many] < costs[at]) {
                costs[at] = spent[many];
                rows[at] = packed[many];
            }
        }

        private void share() {
            int all = (1 << todoCount) - 1;
            bestCost = ceiling + 1;
            for (int set = 0; set <= all; set++) {
                if (costs[set] <= bestCost) {
                    shareOthers(set, all & ~set, all);
                }
            }
        }

        /** Goes through the sets of what the first TEAM leaves to the second. */
        private void shareOthers(int first, int rest, int all) {
            int second = rest;
            for (int i = 0; i <= all && second >= 0; i++) {
                int third = rest & ~second;
                long cost = costs[first] + costs[SETS + second] + costs[2 * SETS + third];
                if (cost < bestCost || cost == bestCost && isLikelier(first, second, third)) {
                    bestCost = cost;
                    bestRows[0] = rows[first];
                    bestRows[1] = rows[SETS + second];
                    bestRows[2] = rows[2 * SETS + third];
                }
                second = second == 0 ? NONE : second - 1 & rest;
            }
        }

        private boolean isLikelier(int first, int second, int third) {
            if (rows[first] != bestRows[0]) {
                return rows[first] < bestRows[0];
            }
            if (rows[SETS + second] != bestRows[1]) {
                return rows[SETS + second] < bestRows[1];
            }
            return rows[2 * SETS + third] < bestRows[2];
        }
    }

    /** Where the SETS of linen are. */
    private static final class Laundry {
        private static final int MOST_SETS = 200;

        int clean = 20;
        int wash = 10;
        private int dirty;
        /** In COTTAGES for STAYS of this WEEK, and of the WEEK ahead. */
        private int laid;
        private int laidAhead;
        private int hired;
        private int hiredAhead;
        private int hiredInAll;

        void sendOut(int guests) {
            int washed = Math.min(wash, dirty);
            dirty -= washed;
            clean += washed;
            laid = Math.min(clean, guests);
            clean -= laid;
            hired = guests - laid;
            hiredInAll += hired;
        }

        void takeBack() {
            dirty += laidAhead;
            laidAhead = laid;
            laid = 0;
            hiredAhead = hired;
            hired = 0;
        }

        int detail(int what) {
            switch (what) {
                case 0: return clean;
                case 1: return laid + laidAhead;
                case 2: return dirty;
                case 3: return hired + hiredAhead;
                case 4: return hiredInAll;
                default: return NONE;
            }
        }

        /** As long as nothing is HIRED, what is washed does not hang on how many SETS there are. */
        int fewestSets(Booking[] bookings, int bookingCount) {
            int away = 0;
            int most = 0;
            int soiled = 0;
            int guestsAhead = 0;
            for (int week = 0; week < WEEKS; week++) {
                int washed = Math.min(wash, soiled);
                int guests = guestsIn(week, bookings, bookingCount);
                away += guests - washed;
                most = Math.max(most, away);
                soiled += guestsAhead - washed;
                guestsAhead = guests;
            }
            return most > MOST_SETS ? NONE : most;
        }

        private static int guestsIn(int week, Booking[] bookings, int bookingCount) {
            int guests = 0;
            for (int i = 0; i < bookingCount && i < bookings.length; i++) {
                if (bookings[i].inForce && bookings[i].week == week) {
                    guests += bookings[i].guests;
                }
            }
            return guests;
        }
    }

    /** A TEXT that tells PAY: the TAPE, and then TERMS. */
    private static final class Text {
        static final int MOST = 120;
        private static final int DEEPEST = 6;
        private static final int LONGEST_NUMBER = 4;
        private static final int MOST_PAY = 10000;
        private static final long BOUND = 1000000000L;
        private static final String LETTERS = "clrgdh";
        /** Where in a CLAUSE a SUM stands. */
        private static final int FIRST = 0;
        private static final int COMPARED = 1;
        private static final int NEXT_TEST = 2;
        private static final int PAID = 3;

        private final int[] bytes = new int[MOST];
        int length;
        int from = NONE;
        int told = NONE;
        /** How far a TEXT has been gone through. */
        private int part;
        private int depth;
        private int digits;
        private boolean atomDue;
        private int at;

        static int bytesOf(int number) {
            int many = 0;
            for (int shift = 24; shift >= 0; shift -= 8) {
                many += (number >>> shift & 255) == 0 ? 0 : 1;
            }
            return many;
        }

        void addBytes(int number) {
            for (int shift = 24; shift >= 0; shift -= 8) {
                int one = number >>> shift & 255;
                if (one != 0 && length < MOST) {
                    bytes[length] = one;
                    length++;
                }
            }
        }

        private static boolean isDigit(int one) {
            return one >= '0' && one <= '9';
        }

        private static boolean isLetter(int one) {
            return LETTERS.indexOf((char) one) >= 0;
        }

        private static boolean isPlusOrMinus(int one) {
            return one == '+' || one == '-';
        }

        private static boolean isTimesOrBy(int one) {
            return one == '*' || one == '/';
        }

        private static boolean isComparison(int one) {
            return one == '=' || one == '<' || one == '>';
        }

        int firstFault() {
            part = FIRST;
            depth = 0;
            digits = 0;
            atomDue = true;
            for (int i = 0; i < length; i++) {
                if (!goesOnWith(bytes[i])) {
                    return i;
                }
            }
            boolean whole = !atomDue && depth == 0 && (part == FIRST || part == PAID);
            return whole ? NONE : length;
        }

        private boolean goesOnWith(int one) {
            boolean inNumber = digits > 0 && digits < LONGEST_NUMBER;
            if (isDigit(one) && (atomDue || inNumber)) {
                digits++;
                atomDue = false;
                return true;
            }
            digits = 0;
            if (one == ' ') {
                return true;
            }
            return atomDue ? beginsAtom(one) : followsAtom(one);
        }

        private boolean beginsAtom(int one) {
            if (one == '(' && depth < DEEPEST) {
                depth++;
                return true;
            }
            atomDue = false;
            return isLetter(one);
        }

        private boolean followsAtom(int one) {
            if (depth > 0 && one == ')') {
                depth--;
                return true;
            }
            atomDue = true;
            if (isPlusOrMinus(one) || isTimesOrBy(one)) {
                return true;
            }
            part = depth > 0 ? NONE : partBehind(part, one);
            return part != NONE;
        }

        private static int partBehind(int part, int sign) {
            if (isComparison(sign)) {
                return part == FIRST || part == NEXT_TEST ? COMPARED : NONE;
            }
            switch (sign) {
                case '&': return part == COMPARED ? NEXT_TEST : NONE;
                case '?': return part == COMPARED ? PAID : NONE;
                case ';': return part == FIRST || part == PAID ? FIRST : NONE;
                default: return NONE;
            }
        }

        /** PAY of a JOB; only for a TEXT without a FAULT. */
        int coinsFor(Job job) {
            at = 0;
            for (int clause = 0; clause < MOST && sign() != 0; clause++) {
                boolean holds = true;
                long value = sumFor(job, 0);
                for (int test = 0; test < MOST && isComparison(sign()); test++) {
                    int comparison = takeSign();
                    long other = sumFor(job, 0);
                    holds = holds && compares(value, comparison, other);
                    takeSign();
                    value = sumFor(job, 0);
                }
                if (holds) {
                    return (int) Math.max(0, Math.min(value, MOST_PAY));
                }
                takeSign();
            }
            return 0;
        }

        private static boolean compares(long one, int comparison, long other) {
            if (comparison == '=') {
                return one == other;
            }
            return comparison == '<' ? one < other : one > other;
        }

        /** The next sign that is no blank; 0 at the end. */
        private int sign() {
            for (int i = at; i < length; i++) {
                if (bytes[i] != ' ') {
                    at = i;
                    return bytes[i];
                }
            }
            at = length;
            return 0;
        }

        private int takeSign() {
            int sign = sign();
            at++;
            return sign;
        }

        private long sumFor(Job job, int depth) {
            long value = productFor(job, depth);
            for (int i = 0; i < MOST && isPlusOrMinus(sign()); i++) {
                boolean plus = takeSign() == '+';
                long other = productFor(job, depth);
                value = bounded(plus ? value + other : value - other);
            }
            return value;
        }

        private long productFor(Job job, int depth) {
            long value = atomFor(job, depth);
            for (int i = 0; i < MOST && isTimesOrBy(sign()); i++) {
                boolean times = takeSign() == '*';
                long other = atomFor(job, depth);
                value = bounded(times ? value * other : divided(value, other));
            }
            return value;
        }

        private long atomFor(Job job, int depth) {
            int sign = sign();
            if (isDigit(sign)) {
                return number();
            }
            at++;
            if (sign != '(' || depth >= DEEPEST) {
                return letterFor(job, sign);
            }
            long value = sumFor(job, depth + 1);
            takeSign();
            return value;
        }

        private long number() {
            long value = 0;
            for (int i = at; i < length && isDigit(bytes[i]); i++) {
                value = 10 * value + bytes[i] - '0';
                at = i + 1;
            }
            return value;
        }

        private static long letterFor(Job job, int letter) {
            switch (letter) {
                case 'c': return job.clean;
                case 'l': return job.lateness();
                case 'r': return job.travel;
                case 'g': return job.leaves.guests;
                case 'd': return job.leaves.dog ? 1 : 0;
                case 'h': return job.begun / 60;
                default: return 0;
            }
        }

        private static long divided(long one, long other) {
            return other == 0 ? 0 : one / other;
        }

        private static long bounded(long value) {
            return Math.max(-BOUND, Math.min(value, BOUND));
        }
    }

    /** The TAPE, the TERMS and the LINES; drafts stand behind the LINES till a DAY is closed. */
    private static final class Wages {
        private static final int MOST_TERMS = 20;
        private static final int MOST_LINES = 3000;

        Text tape = new Text();
        private final Text[] terms = new Text[MOST_TERMS];
        int termsCount;
        private final int[] closedIn = new int[MOST_LINES];
        private final Job[] jobs = new Job[MOST_LINES];
        private final int[] coins = new int[MOST_LINES];
        int lineCount;
        int lineSum;
        private int drafts;

        boolean hasAllTerms() {
            return termsCount >= MOST_TERMS;
        }

        int keepTape(int from, int week) {
            if (hasAllTerms()) {
                return NONE;
            }
            tape.from = from;
            tape.told = week;
            terms[termsCount] = tape;
            termsCount++;
            tape = new Text();
            return termsCount - 1;
        }

        /** Of those told in WEEKS up to q, from WEEKS up to this: from the greatest, told last. */
        int termsFor(int week, int q) {
            int found = NONE;
            int greatest = NONE;
            for (int i = 0; i < termsCount; i++) {
                Text one = terms[i];
                if (one.told <= q && one.from <= week && one.from >= greatest) {
                    found = i;
                    greatest = one.from;
                }
            }
            return found;
        }

        int coinsBy(int which, Job job) {
            return which >= 0 && which < termsCount ? terms[which].coinsFor(job) : NONE;
        }

        void dropDrafts() {
            drafts = 0;
        }

        boolean draft(int week, Job job, int due) {
            if (due == job.booked) {
                return true;
            }
            int at = lineCount + drafts;
            if (at >= MOST_LINES) {
                return false;
            }
            closedIn[at] = week;
            jobs[at] = job;
            coins[at] = due - job.booked;
            drafts++;
            return true;
        }

        int enterDrafts() {
            int entered = drafts;
            for (int i = 0; i < entered && lineCount < MOST_LINES; i++) {
                jobs[lineCount].booked += coins[lineCount];
                lineSum += coins[lineCount];
                lineCount++;
            }
            drafts = 0;
            return entered;
        }

        int lineDetail(int i, int what) {
            if (i < 0 || i >= lineCount) {
                return NO_LINE;
            }
            switch (what) {
                case 0: return closedIn[i];
                case 1: return jobs[i].week;
                case 2: return jobs[i].cottage;
                case 3: return jobs[i].team;
                case 4: return coins[i];
                default: return NO_LINE;
            }
        }
    }

    /** The BOOKS of all COTTAGES in one list, as the entries come. */
    private static final class Books {
        private static final int MOST_LOOKS = 60;
        private static final int MOST_ENTRIES = MOST_LOOKS + MOST_BOOKINGS;

        private final int[] cottages = new int[MOST_ENTRIES];
        /** Which LOOK an entry is; NONE for a STAY. */
        private final int[] looks = new int[MOST_ENTRIES];
        private int entryCount;
        private final int[] seen = new int[MOST_LOOKS * THINGS];
        int lookCount;
        final int[] worths = {1, 1, 1};

        boolean isFull() {
            return lookCount >= MOST_LOOKS;
        }

        void addLook(int cottage, int a, int b, int c) {
            if (isFull()) {
                return;
            }
            int first = lookCount * THINGS;
            seen[first] = a;
            seen[first + 1] = b;
            seen[first + 2] = c;
            addEntry(cottage, lookCount);
            lookCount++;
        }

        int addStay(int cottage) {
            addEntry(cottage, NONE);
            return entryCount - 1;
        }

        private void addEntry(int cottage, int which) {
            if (entryCount < MOST_ENTRIES) {
                cottages[entryCount] = cottage;
                looks[entryCount] = which;
                entryCount++;
            }
        }

        private boolean isEntry(int entry) {
            return entry >= 0 && entry < entryCount;
        }

        private int lookAhead(int entry) {
            for (int i = entry - 1; i >= 0; i--) {
                if (cottages[i] == cottages[entry]) {
                    return looks[i];
                }
            }
            return NONE;
        }

        private int lookBehind(int entry) {
            for (int i = entry + 1; i < entryCount; i++) {
                if (cottages[i] == cottages[entry]) {
                    return looks[i];
                }
            }
            return NONE;
        }

        /** What was lost in a STAY; NONE: nobody knows. */
        int lostAt(int entry, int thing) {
            if (!isEntry(entry)) {
                return NONE;
            }
            int ahead = lookAhead(entry);
            int behind = lookBehind(entry);
            if (ahead == NONE || behind == NONE) {
                return NONE;
            }
            return Math.max(0, seen[ahead * THINGS + thing] - seen[behind * THINGS + thing]);
        }

        int lostCoins(int entry) {
            int coins = 0;
            for (int thing = 0; thing < THINGS; thing++) {
                coins += Math.max(0, lostAt(entry, thing)) * worths[thing];
            }
            return coins;
        }
    }
}
