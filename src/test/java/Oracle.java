import java.util.ArrayList;
import java.util.Arrays;
import java.util.Collections;
import java.util.List;
import java.util.NoSuchElementException;
import java.util.TreeMap;

/** The document once more, written as plainly and slowly as can be, to compare random runs with. */
final class Oracle {
    static final class C { int beds, rent, minutes; boolean dogs; boolean[] shut = new boolean[52]; List<Object> book = new ArrayList<>(); List<Integer> codes = new ArrayList<>(); }
    static final class B { int n, c, w, g, dep, price, compl, times, code = -1; boolean dog, force = true, begun; }
    static final class T { int n, load, about, c = -1, till = -1, left, place, ways; int[] blames = new int[4]; List<Integer> row = new ArrayList<>(); }
    static final class J { int w, c, out = 600, due, clean, linen, begun = -1, ready = -1, team = -1, ways, booked; B left; }
    static final class Terms { int from, told; String text; }

    final List<C> cs = new ArrayList<>();
    final List<B> bs = new ArrayList<>();
    final List<T> ts = new ArrayList<>();
    final TreeMap<Integer, J> jobs = new TreeMap<>();
    final List<Terms> terms = new ArrayList<>();
    final List<int[]> lines = new ArrayList<>();
    final int[][] way = new int[8][8];
    int rest = 5, w, now, clean = 20, wash = 10, dirty, laid, laidOld, hired, hiredOld, hiredAll, looks, complaints, leftOut;
    boolean open;
    long y = 1;
    String tape = "";
    int[] worth = {1, 1, 1};

    Oracle() {
        for (int[] r : way) Arrays.fill(r, 10);
        for (int i = 0; i < 8; i++) way[i][i] = 0;
    }

    boolean future(int week) { return week >= 0 && week < 52 && week >= w && !(open && week == w); }

    int cottage(int beds, boolean dogs, int rent, int minutes) {
        if (beds < 1 || beds > 12 || rent < 1 || rent > 2000 || minutes < 10 || minutes > 240 || cs.size() == 7 || open) return -1;
        C c = new C(); c.beds = beds; c.dogs = dogs; c.rent = rent; c.minutes = minutes; cs.add(c);
        return cs.size() - 1;
    }

    boolean rent(int c, int coins) {
        if (c < 0 || c >= cs.size() || coins < 1 || coins > 2000) return false;
        cs.get(c).rent = coins; return true;
    }

    B at(int c, int week) {
        for (B b : bs) if (b.force && b.c == c && b.w == week) return b;
        return null;
    }

    int book(int c, int week, int guests, boolean dog, int dep) {
        if (c < 0 || c >= cs.size() || !future(week) || guests < 1 || guests > cs.get(c).beds) return -1;
        if (dog && !cs.get(c).dogs || dep < 0 || dep > 1000 || bs.size() == 60 || at(c, week) != null) return -1;
        B b = new B(); b.n = bs.size(); b.c = c; b.w = week; b.g = guests; b.dog = dog; b.dep = dep; b.price = cs.get(c).rent; bs.add(b);
        return b.n;
    }

    boolean cancel(int i) {
        if (i < 0 || i >= bs.size() || !bs.get(i).force || !future(bs.get(i).w)) return false;
        bs.get(i).force = false; return true;
    }

    boolean shut(int c, int week, boolean is) {
        if (c < 0 || c >= cs.size() || !future(week) || cs.get(c).shut[week] == is) return false;
        cs.get(c).shut[week] = is; return true;
    }

    /** All moves, by brute force; answers cottage by booking. */
    List<int[]> allMoves; List<B> movers;
    int[] bestMoves(int week) {
        movers = new ArrayList<>();
        for (B b : bs) if (b.force && b.w == week && cs.get(b.c).shut[week]) movers.add(b);
        allMoves = new ArrayList<>();
        enumerate(new int[movers.size()], 0, week);
        int[] best = null;
        for (int[] m : allMoves) if (best == null || better(m, best)) best = m;
        return best;
    }

    void enumerate(int[] m, int i, int week) {
        if (i == m.length) { allMoves.add(m.clone()); return; }
        m[i] = -1; enumerate(m, i + 1, week);
        for (int c = cs.size() - 1; c >= 0; c--) {
            boolean used = false;
            for (int k = 0; k < i; k++) used |= m[k] == c;
            C h = cs.get(c);
            if (used || h.shut[week] || at(c, week) != null || h.beds < movers.get(i).g || movers.get(i).dog && !h.dogs) continue;
            m[i] = c; enumerate(m, i + 1, week);
        }
    }

    int many(int[] m) { int s = 0; for (int c : m) if (c >= 0) s++; return s; }
    int apart(int[] m) { int s = 0; for (int i = 0; i < m.length; i++) if (m[i] >= 0) s += Math.abs(cs.get(m[i]).rent - movers.get(i).price); return s; }
    boolean better(int[] a, int[] b) {
        if (many(a) != many(b)) return many(a) > many(b);
        if (apart(a) != apart(b)) return apart(a) < apart(b);
        for (int i = 0; i < a.length; i++) if (a[i] != b[i]) {
            if (b[i] < 0) return true;
            if (a[i] < 0) return false;
            return a[i] < b[i];
        }
        return false;
    }

    int moves(int week, int what) {
        if (!future(week) || what < 0 || what > 1) return -1;
        int[] m = bestMoves(week);
        return what == 0 ? many(m) : apart(m);
    }

    int moved(int i) {
        if (i < 0 || i >= bs.size() || !future(bs.get(i).w)) return -1;
        int[] m = bestMoves(bs.get(i).w);
        int k = movers.indexOf(bs.get(i));
        return k < 0 ? -1 : m[k];
    }

    int move(int week) {
        if (!future(week)) return -1;
        int[] m = bestMoves(week);
        for (int i = 0; i < m.length; i++) if (m[i] >= 0) { movers.get(i).c = m[i]; movers.get(i).times++; }
        return many(m);
    }

    int booked(int i, int what) {
        if (i < 0 || i >= bs.size() || what < 0 || what > 9) return -1;
        B b = bs.get(i);
        return new int[] {b.c, b.w, b.g, b.dog ? 1 : 0, b.dep, b.price, b.force ? 1 : 0, b.begun ? 1 : 0, b.compl, b.times}[what];
    }

    int taken(int first, int last) {
        if (first < 0 || first > 51 || last < 0 || last > 51 || last < first) return -1;
        return bs.stream().filter(b -> b.begun && b.w >= first && b.w <= last).mapToInt(b -> b.price).sum();
    }

    int team(int load) {
        if (load < 12 || load > 30 || ts.size() == 3 || open) return -1;
        T t = new T(); t.load = load; t.n = ts.size(); ts.add(t); return t.n;
    }

    boolean way(int a, int b, int m) {
        if (a < 0 || a > 7 || b < 0 || b > 7 || a == b || m < 0 || m > 90) return false;
        way[a][b] = m; way[b][a] = m; return true;
    }

    boolean rest(int m) { if (m < 0 || m > 60) return false; rest = m; return true; }

    B stay(int c, int week) {
        for (B b : bs) if (b.begun && b.c == c && b.w == week) return b;
        return null;
    }

    J jobAt(int week, int c) { return week < 0 || week > 51 || c < 0 || c > 6 ? null : jobs.get(week * 10 + c); }

    int openDay() {
        if (open || w > 51) return -1;
        open = true; now = 0;
        int back = Math.min(wash, dirty); dirty -= back; clean += back;
        int made = 0, need = 0;
        for (int c = 0; c < cs.size(); c++) {
            B b = at(c, w);
            if (b != null && !cs.get(c).shut[w]) {
                b.begun = true; need += b.g; cs.get(c).book.add(b);
                List<Integer> codes = cs.get(c).codes;
                do {
                    y = y * 6364136223846793005L + 1442695040888963407L;
                    b.code = (int) Long.remainderUnsigned(y >>> 33, 10000);
                } while (codes.subList(Math.max(0, codes.size() - 3), codes.size()).contains(b.code));
                codes.add(b.code);
            }
            B out = stay(c, w - 1);
            if (out != null) {
                B in = stay(c, w);
                J j = new J(); j.w = w; j.c = c; j.left = out; j.due = in == null ? 1440 : 960; j.linen = in == null ? 0 : in.g;
                j.clean = cs.get(c).minutes + 3 * out.g + (out.dog ? 20 : 0);
                jobs.put(w * 10 + c, j); made++;
            }
        }
        laid = Math.min(need, clean); clean -= laid; hired = need - laid; hiredAll += hired;
        for (T t : ts) { t.about = 0; t.c = -1; t.till = -1; t.left = t.load; t.place = 0; t.ways = 0; t.row.clear(); }
        return made;
    }

    int closeDay() {
        if (!open) return -1;
        List<int[]> more = new ArrayList<>();
        for (J j : jobs.values()) if (j.ready >= 0) {
            int f = inForce(j.w, w);
            int p = f < 0 ? 0 : payOf(terms.get(f).text, j);
            if (p != j.booked) more.add(new int[] {w, j.w, j.c, j.team, p - j.booked});
        }
        if (lines.size() + more.size() > 3000) return -1;
        for (int[] l : more) { jobAt(l[1], l[2]).booked += l[4]; lines.add(l); }
        for (J j : jobs.values()) if (j.w == w && j.ready < 0) leftOut++;
        dirty += laidOld; laidOld = laid; laid = 0; hiredOld = hired; hired = 0;
        open = false; w++;
        return more.size();
    }

    boolean late(int c, int out) {
        J j = jobAt(w, c);
        if (!open || j == null || out < now || out > 1440 || j.begun >= 0) return false;
        j.out = out; return true;
    }

    boolean state(int c, int m) {
        J j = jobAt(w, c);
        if (!open || j == null || m < 1 || m > 400 || j.begun >= 0) return false;
        j.clean = m; return true;
    }

    // the best plan: all plans there are
    List<List<Integer>> bestRows; long[] bestCost; List<Integer> todo;

    void findBest() {
        bestRows = null; bestCost = null; todo = new ArrayList<>();
        for (J j : jobs.values()) if (j.w == w && j.team < 0) todo.add(j.c);
        if (ts.isEmpty()) {
            if (todo.isEmpty()) { bestRows = new ArrayList<>(); bestCost = new long[3]; }
            return;
        }
        List<List<Integer>> rows = new ArrayList<>();
        for (int t = 0; t < ts.size(); t++) rows.add(new ArrayList<>());
        allPlans(rows, new ArrayList<>(todo), 0, new ArrayList<>());
    }

    void allPlans(List<List<Integer>> rows, List<Integer> open, int t, List<long[]> costs) {
        if (t == ts.size()) {
            if (!open.isEmpty()) return;
            long[] c = new long[3];
            for (long[] one : costs) for (int i = 0; i < 3; i++) c[i] += one[i];
            int cmp = bestCost == null ? -1 : Arrays.compare(c, bestCost);
            if (cmp == 0) cmp = compareRows(rows, bestRows);
            if (cmp < 0) {
                bestCost = c; bestRows = new ArrayList<>();
                for (List<Integer> r : rows) bestRows.add(new ArrayList<>(r));
            }
            return;
        }
        costs.add(costOf(t, rows.get(t)));
        allPlans(rows, open, t + 1, costs);
        costs.remove(costs.size() - 1);
        for (int i = 0; i < open.size(); i++) {
            List<Integer> less = new ArrayList<>(open);
            rows.get(t).add(less.remove(i));
            allPlans(rows, less, t, costs);
            rows.get(t).remove(rows.get(t).size() - 1);
        }
    }

    static int compareRows(List<List<Integer>> a, List<List<Integer>> b) {
        for (int t = 0; t < a.size(); t++) {
            List<Integer> x = a.get(t), z = b.get(t);
            for (int i = 0; i < Math.max(x.size(), z.size()); i++) {
                if (i >= x.size()) return 1;
                if (i >= z.size()) return -1;
                if (!x.get(i).equals(z.get(i))) return x.get(i) - z.get(i);
            }
        }
        return 0;
    }

    long[] costOf(int n, List<Integer> row) {
        T t = ts.get(n);
        int when = now, place = t.place, left = t.left;
        if (t.about == 3) when = t.till;
        if (t.about == 1) when = Math.max(t.till, jobAt(w, t.c).out) + jobAt(w, t.c).clean;
        if (t.about == 2) when = Math.max(now, jobAt(w, t.c).out) + jobAt(w, t.c).clean;
        long late = 0, moved = 0, minutes = 0;
        for (int c : row) {
            J j = jobAt(w, c);
            int m;
            if (left < j.linen) { m = (place == 0 ? 0 : way[place][0]) + rest + way[0][1 + c]; left = t.load; } else m = way[place][1 + c];
            left -= j.linen; place = 1 + c; minutes += m;
            when = Math.max(when + m, j.out) + j.clean;
            late += Math.max(0, when - j.due);
            for (T o : ts) if (o != t && o.row.contains(c)) moved++;
        }
        return new long[] {late, moved, minutes};
    }

    int best(int what) {
        if (!open || what < 0 || what > 2) return -1;
        findBest();
        return bestCost == null ? -1 : (int) bestCost[what];
    }

    boolean plan() {
        if (!open) return false;
        findBest();
        if (bestCost == null) return false;
        for (T t : ts) t.row = bestRows.get(t.n);
        return true;
    }

    int row(int t, int i) {
        if (!open || t < 0 || t >= ts.size() || i < 0 || i >= ts.get(t).row.size()) return -1;
        return ts.get(t).row.get(i);
    }

    int tick(int n) {
        if (!open || n < 0 || n > 500 || now + n > 1440) return -1;
        for (int i = 0; i < n; i++) {
            now++;
            for (T t : ts) while (something(t)) { }
        }
        return now;
    }

    boolean something(T t) {
        J j = t.c < 0 ? null : jobAt(w, t.c);
        if (t.about == 1 && t.till == now) { t.about = 2; t.till = -1; return true; }
        if (t.about == 2 && j.out <= now) { t.about = 3; t.till = now + j.clean; j.begun = now; return true; }
        if (t.about == 3 && t.till == now) { t.about = 0; t.till = -1; t.c = -1; j.ready = now; return true; }
        if (t.about == 0 && !t.row.isEmpty()) {
            int c = t.row.remove(0);
            j = jobAt(w, c);
            if (t.left < j.linen) { j.ways = (t.place == 0 ? 0 : way[t.place][0]) + rest + way[0][1 + c]; t.left = t.load; } else j.ways = way[t.place][1 + c];
            t.left -= j.linen; t.place = 1 + c; t.c = c; t.ways += j.ways; t.till = now + j.ways; t.about = 1; j.team = t.n;
            return true;
        }
        return false;
    }

    int about(int n, int what) {
        if (!open || n < 0 || n >= ts.size() || what < 0 || what > 5) throw new NoSuchElementException();
        T t = ts.get(n);
        return new int[] {t.about, t.c, t.till, t.left, t.place, t.ways}[what];
    }

    int lateOf(J j) { return j.ready < 0 ? -1 : Math.max(0, j.ready - j.due); }

    int job(int week, int c, int what) {
        J j = jobAt(week, c);
        if (j == null || what < 0 || what > 9) return -1;
        return new int[] {j.out, j.due, j.clean, j.linen, j.begun, j.ready, lateOf(j), j.team, j.ways, j.booked}[what];
    }

    boolean linen(int sets, int washed) {
        if (sets < 0 || sets > 200 || washed < 0 || washed > 100 || open || w > 0) return false;
        clean = sets; wash = washed; return true;
    }

    int sets(int what) {
        return what < 0 || what > 4 ? -1 : new int[] {clean, laid + laidOld, dirty, hired + hiredOld, hiredAll}[what];
    }

    int fewest() {
        for (int n = 0; n <= 200; n++) if (lasts(n)) return n;
        return -1;
    }

    boolean lasts(int n) {
        int base = n, soiled = 0, ahead = 0;
        for (int week = 0; week < 52; week++) {
            int back = Math.min(soiled, wash); soiled -= back; base += back;
            int need = 0;
            for (B b : bs) if (b.force && b.w == week) need += b.g;
            if (need > base) return false;
            base -= need; soiled += ahead; ahead = need;
        }
        return true;
    }

    int feed(int... words) {
        StringBuilder s = new StringBuilder(tape);
        for (int x : words) for (int k = 3; k >= 0; k--) { int b = x >> 8 * k & 255; if (b != 0) s.append((char) b); }
        if (s.length() > 120) return -1;
        tape = s.toString(); return tape.length();
    }

    boolean end(int n) { if (n < 0 || n > tape.length()) return false; tape = tape.substring(0, n); return true; }

    int fault() {
        if (valid(tape)) return -1;
        for (int i = 0; i < tape.length(); i++) if (!canGoOn(tape.substring(0, i + 1))) return i;
        return tape.length();
    }

    /** Whether some end makes it a TEXT: perhaps an ATOM, then the ) that lack, then the rest of a CLAUSE. */
    static boolean canGoOn(String start) {
        String shut = "";
        for (int k = 0; k <= 6; k++, shut += ")")
            for (String atom : new String[] {"", "1"})
                for (String tail : new String[] {"", "?1", "=1?1"})
                    if (valid(start + atom + shut + tail)) return true;
        return false;
    }

    // a reader of TEXTS that knows the job it reads them for (none: only whether it is one)
    static final class Bad extends RuntimeException { private static final long serialVersionUID = 1; }
    static final class Reader {
        final List<String> tokens = new ArrayList<>(); int at; final J j; final Oracle o;
        Reader(String s, J j, Oracle o) {
            this.j = j; this.o = o;
            for (int i = 0; i < s.length(); ) {
                char c = s.charAt(i);
                if (c == ' ') { i++; continue; }
                int e = i + 1;
                if (Character.isDigit(c)) while (e < s.length() && Character.isDigit(s.charAt(e))) e++;
                if (e - i > 4) throw new Bad();
                tokens.add(s.substring(i, e)); i = e;
            }
        }
        String peek() { return at < tokens.size() ? tokens.get(at) : "end"; }
        boolean is(String... any) { for (String a : any) if (a.equals(peek())) return true; return false; }
        String next() { String t = peek(); at++; return t; }
        void need(String... t) { if (!is(t)) throw new Bad(); }
        long text() {
            Long pay = null;
            while (true) {
                long v = sum(0); boolean ok = true;
                if (is("=", "<", ">")) {
                    while (true) {
                        need("=", "<", ">");
                        String s = next(); long u = sum(0);
                        ok &= s.equals("=") ? v == u : s.equals("<") ? v < u : v > u;
                        need("&", "?");
                        boolean more = next().equals("&");
                        v = sum(0);
                        if (!more) break;
                    }
                }
                if (ok && pay == null) pay = v;
                if (is("end")) return Math.max(0, Math.min(10000, pay == null ? 0 : pay));
                need(";"); next();
            }
        }
        long cut(long v) { return Math.max(-1000000000L, Math.min(1000000000L, v)); }
        long sum(int depth) {
            long v = product(depth);
            while (is("+", "-")) v = next().equals("+") ? cut(v + product(depth)) : cut(v - product(depth));
            return v;
        }
        long product(int depth) {
            long v = atom(depth);
            while (is("*", "/")) {
                boolean times = next().equals("*"); long u = atom(depth);
                v = cut(times ? v * u : u == 0 ? 0 : v / u);
            }
            return v;
        }
        long atom(int depth) {
            String t = next();
            if (t.equals("(")) {
                if (depth == 6) throw new Bad();
                long v = sum(depth + 1);
                need(")"); next();
                return v;
            }
            if (t.charAt(0) >= '0' && t.charAt(0) <= '9') return Long.parseLong(t);
            if (t.length() > 1) throw new Bad();
            switch (t.charAt(0)) {
                case 'c': return j == null ? 0 : j.clean;
                case 'l': return j == null ? 0 : o.lateOf(j);
                case 'r': return j == null ? 0 : j.ways;
                case 'g': return j == null ? 0 : j.left.g;
                case 'd': return j == null ? 0 : j.left.dog ? 1 : 0;
                case 'h': return j == null ? 0 : j.begun / 60;
                default: throw new Bad();
            }
        }
    }

    static boolean valid(String s) {
        try { new Reader(s, null, null).text(); return true; } catch (Bad e) { return false; }
    }

    int payOf(String s, J j) { return (int) new Reader(s, j, this).text(); }

    int terms(int from) {
        if (from < 0 || from > 51 || terms.size() == 20 || w > 51 || fault() != -1) return -1;
        Terms t = new Terms(); t.from = from; t.told = w; t.text = tape; tape = ""; terms.add(t);
        return terms.size() - 1;
    }

    int inForce(int week, int q) {
        int best = -1;
        for (int i = 0; i < terms.size(); i++) {
            Terms t = terms.get(i);
            if (t.told > q || t.from > week) continue;
            if (best < 0 || t.from > terms.get(best).from || t.from == terms.get(best).from) best = i;
        }
        return best;
    }

    int force(int week, int q) {
        if (week < 0 || week > 51 || q < 0 || q > 51 || q > w) return -1;
        return inForce(week, q);
    }

    int pay(int t, int week, int c) {
        J j = jobAt(week, c);
        if (t < 0 || t >= terms.size() || j == null || j.ready < 0) return -1;
        return payOf(terms.get(t).text, j);
    }

    int line(int i, int what) {
        return i < 0 || i >= lines.size() || what < 0 || what > 4 ? -1000000 : lines.get(i)[what];
    }

    int look(int c, int a, int b, int d) {
        if (c < 0 || c >= cs.size() || Math.min(a, Math.min(b, d)) < 0 || Math.max(a, Math.max(b, d)) > 99 || looks == 60) return -1;
        cs.get(c).book.add(new int[] {a, b, d});
        return ++looks;
    }

    boolean worth(int thing, int coins) {
        if (thing < 0 || thing > 2 || coins < 0 || coins > 100) return false;
        worth[thing] = coins; return true;
    }

    int lost(int i, int thing) {
        if (i < 0 || i >= bs.size() || !bs.get(i).begun || thing < 0 || thing > 2) return -1;
        List<Object> book = cs.get(bs.get(i).c).book;
        int k = book.indexOf(bs.get(i));
        if (k == 0 || k == book.size() - 1 || !(book.get(k - 1) instanceof int[]) || !(book.get(k + 1) instanceof int[])) return -1;
        return Math.max(0, ((int[]) book.get(k - 1))[thing] - ((int[]) book.get(k + 1))[thing]);
    }

    int kept(int i) {
        if (i < 0 || i >= bs.size() || !bs.get(i).begun) return -1;
        if (lost(i, 0) < 0) return 0;
        return Math.min(bs.get(i).dep, lost(i, 0) * worth[0] + lost(i, 1) * worth[1] + lost(i, 2) * worth[2]);
    }

    int complain(int i, int kind) {
        if (i < 0 || i >= bs.size() || kind < 0 || kind > 3 || !bs.get(i).begun || complaints == 60) return -2;
        complaints++;
        B b = bs.get(i); b.compl++;
        J j = jobAt(b.w, b.c);
        if (kind > 1 || j == null || j.ready < 0 || kind == 1 && lateOf(j) == 0) return -1;
        ts.get(j.team).blames[kind]++;
        return j.team;
    }

    int blamed(int t, int kind) {
        return t < 0 || t >= ts.size() || kind < 0 || kind > 3 ? -1 : ts.get(t).blames[kind];
    }

    int draw(int n, long seed) {
        if (!open) return -1;
        List<J> ready = new ArrayList<>();
        for (J j : jobs.values()) if (j.w == w && j.ready >= 0) ready.add(j);
        if (n < 1 || n > ready.size()) return -1;
        int bits = 0; long x = seed;
        for (int i = 0; i < n; i++) {
            x = x * 6364136223846793005L + 1442695040888963407L;
            List<J> pot = new ArrayList<>();
            for (J j : ready) pot.addAll(Collections.nCopies(1 + Arrays.stream(ts.get(j.team).blames).sum(), j));
            J j = pot.get((int) ((x >>> 33) % pot.size()));
            bits |= 1 << j.c; ready.remove(j);
        }
        return bits;
    }

    int code(int i) { return i < 0 || i >= bs.size() || !bs.get(i).begun ? -1 : bs.get(i).code; }

    boolean door(int c, int code, int minute) {
        if (!open || c < 0 || c >= cs.size() || minute < 0 || minute > now) return false;
        J j = jobAt(w, c); B in = stay(c, w);
        if (j != null && j.left.code == code && minute < j.out) return true;
        if (in == null || in.code != code) return false;
        return j == null ? minute >= 960 : j.ready >= 0 && minute >= j.ready;
    }

    int count(int what) {
        int late = 0, force = 0, coins = 0;
        for (J j : jobs.values()) late += Math.max(0, lateOf(j));
        for (B b : bs) force += b.force ? 1 : 0;
        for (int[] l : lines) coins += l[4];
        int[] all = {w, open ? 1 : 0, open ? now : -1, cs.size(), bs.size(), force, ts.size(), terms.size(), lines.size(), coins, looks, complaints, leftOut, late, tape.length()};
        return what < 0 || what >= all.length ? -1 : all[what];
    }
}
