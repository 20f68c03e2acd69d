import java.util.ArrayList;
import java.util.Arrays;
import java.util.Comparator;
import java.util.List;

/**
 * The document once more, in the slowest and plainest form, to compare the class with: every answer is worked out
 * anew from its words, SHARES drop by drop from above, steps back from whole copies.
 */
public final class Model {
    static final class Reach {
        int down, spring, loss, way;
    }

    static final class Gate {
        int reach, mile, bound, back;
    }

    static final class Well {
        int reach, lag, pump;
        List<Integer> pumped = new ArrayList<>();
    }

    static final class Right {
        int kind, gate = -1, reach = -1, born, sum, seasons, wish, debt, idle, pond = -1;
        boolean gone;
        /** By DAY; null where it was not there. */
        List<Integer> had = new ArrayList<>();
    }

    static final class Pond {
        int right, room, filled, letToday, letYesterday;
        int[] accounts = new int[3];
    }

    static final class Member {
        int area, parts;
    }

    static final class State {
        List<Reach> reaches = new ArrayList<>();
        List<Gate> gates = new ArrayList<>();
        List<Well> wells = new ArrayList<>();
        List<Right> rights = new ArrayList<>();
        List<Pond> ponds = new ArrayList<>();
        List<int[]> years = new ArrayList<>();
        List<Member> members = new ArrayList<>();
        int[] forGood = new int[24];
        int[] sold = new int[24];
        int day;

        State() {
            Arrays.fill(forGood, -1);
            Arrays.fill(sold, -1);
        }

        State copy() {
            State c = new State();
            for (Reach r : reaches) {
                Reach n = new Reach();
                n.down = r.down; n.spring = r.spring; n.loss = r.loss; n.way = r.way;
                c.reaches.add(n);
            }
            for (Gate g : gates) {
                Gate n = new Gate();
                n.reach = g.reach; n.mile = g.mile; n.bound = g.bound; n.back = g.back;
                c.gates.add(n);
            }
            for (Well w : wells) {
                Well n = new Well();
                n.reach = w.reach; n.lag = w.lag; n.pump = w.pump; n.pumped.addAll(w.pumped);
                c.wells.add(n);
            }
            for (Right r : rights) {
                Right n = new Right();
                n.kind = r.kind; n.gate = r.gate; n.reach = r.reach; n.born = r.born; n.sum = r.sum;
                n.seasons = r.seasons; n.wish = r.wish; n.debt = r.debt; n.idle = r.idle; n.pond = r.pond;
                n.gone = r.gone; n.had.addAll(r.had);
                c.rights.add(n);
            }
            for (Pond p : ponds) {
                Pond n = new Pond();
                n.right = p.right; n.room = p.room; n.filled = p.filled; n.letToday = p.letToday;
                n.letYesterday = p.letYesterday; n.accounts = p.accounts.clone();
                c.ponds.add(n);
            }
            for (int[] y : years) {
                c.years.add(y.clone());
            }
            for (Member m : members) {
                Member n = new Member();
                n.area = m.area; n.parts = m.parts;
                c.members.add(n);
            }
            c.forGood = forGood.clone();
            c.sold = sold.clone();
            c.day = day;
            return c;
        }
    }

    State s = new State();
    List<State> past = new ArrayList<>();
    List<Integer> signs = new ArrayList<>();
    int refused, knocked;

    // ---- helpers

    static void index(boolean ok) {
        if (!ok) throw new IndexOutOfBoundsException();
    }

    static void argument(boolean ok) {
        if (!ok) throw new IllegalArgumentException();
    }

    static void state(boolean ok) {
        if (!ok) throw new IllegalStateException();
    }

    static boolean in(int v, int a, int b) {
        return a <= v && v <= b;
    }

    boolean isReach(int n) { return in(n, 0, s.reaches.size() - 1); }
    boolean isGate(int n) { return in(n, 0, s.gates.size() - 1); }
    boolean isRight(int n) { return in(n, 0, s.rights.size() - 1); }
    boolean isPond(int n) { return in(n, 0, s.ponds.size() - 1); }
    boolean isWell(int n) { return in(n, 0, s.wells.size() - 1); }
    boolean isMember(int n) { return in(n, 0, s.members.size() - 1); }

    void step() {
        past.add(s.copy());
        if (past.size() > 8) past.remove(0);
    }

    List<Integer> below(int reach, State t) {
        List<Integer> found = new ArrayList<>();
        for (int r = t.reaches.get(reach).down; r != -1; r = t.reaches.get(r).down) {
            if (found.contains(r)) break;
            found.add(r);
        }
        return found;
    }

    static int season(State t) {
        return (t.day / 10) % 4;
    }

    static boolean inSeason(Right r, State t) {
        return (r.seasons / (1 << season(t))) % 2 == 1;
    }

    static int all(Pond p) {
        return p.accounts[0] + p.accounts[1] + p.accounts[2];
    }

    static int want(Right r, State t) {
        if (!inSeason(r, t) || r.gone) return 0;
        if (r.kind == 0) return r.debt > 0 ? Math.max(0, r.wish - r.debt) : r.wish;
        if (r.kind == 1) return r.wish;
        Pond p = t.ponds.get(r.pond);
        return Math.min(r.wish, Math.min(p.room - all(p), 2 * p.room - p.filled));
    }

    static int[] wants(State t) {
        int[] w = new int[t.rights.size()];
        for (int i = 0; i < w.length; i++) w[i] = want(t.rights.get(i), t);
        return w;
    }

    static int pumpedBefore(Well w) {
        int at = w.pumped.size() - w.lag;
        return at < 0 ? 0 : w.pumped.get(at);
    }

    static int[] springs(State t) {
        int[] x = new int[t.reaches.size()];
        for (int i = 0; i < x.length; i++) {
            int v = t.reaches.get(i).spring;
            for (Well w : t.wells) if (w.reach == i) v -= pumpedBefore(w);
            if (v < 0) v = 0;
            for (Pond p : t.ponds) if (t.gates.get(t.rights.get(p.right).gate).reach == i) v += p.letYesterday;
            x[i] = v;
        }
        return x;
    }

    static int[] springs(State t, int[] year) {
        int[] x = new int[t.reaches.size()];
        for (int i = 0; i < x.length; i++) x[i] = t.reaches.get(i).spring * year[i] / 10;
        return x;
    }

    static List<Integer> byAge(State t) {
        List<Integer> order = new ArrayList<>();
        for (int i = 0; i < t.rights.size(); i++) order.add(i);
        order.sort(Comparator.comparingInt((Integer i) -> t.rights.get(i).born).thenComparingInt(i -> i));
        return order;
    }

    static List<Integer> reachOrder(State t) {
        List<Integer> done = new ArrayList<>();
        while (done.size() < t.reaches.size()) {
            for (int i = 0; i < t.reaches.size(); i++) {
                if (done.contains(i)) continue;
                boolean ready = true;
                for (int j = 0; j < t.reaches.size(); j++) {
                    if (t.reaches.get(j).down == i && !done.contains(j)) ready = false;
                }
                if (ready) {
                    done.add(i);
                    break;
                }
            }
        }
        return done;
    }

    static List<Integer> gatesOf(State t, int reach) {
        List<Integer> found = new ArrayList<>();
        for (int mile = 0; mile <= 9; mile++) {
            for (int g = 0; g < t.gates.size(); g++) {
                if (t.gates.get(g).reach == reach && t.gates.get(g).mile == mile) found.add(g);
            }
        }
        return found;
    }

    /** What flows; a spot that can not FLOW is told by its name: "B" and the GATE, "G" and the GATE, "R" and the REACH. */
    static final class Flowing {
        int[] in, lost, rest, out, taken, ret;
        String bad;
    }

    static Flowing flow(State t, int[] springs, int[] shares) {
        Flowing f = new Flowing();
        int n = t.reaches.size();
        f.in = springs.clone();
        f.lost = new int[n];
        f.rest = new int[n];
        f.out = new int[n];
        f.taken = new int[t.gates.size()];
        f.ret = new int[t.gates.size()];
        for (int r : reachOrder(t)) {
            Reach reach = t.reaches.get(r);
            f.lost[r] = f.in[r] * reach.loss / 10;
            int there = f.in[r] - f.lost[r];
            int returns = 0;
            for (int g : gatesOf(t, r)) {
                int uses = 0;
                for (int i = 0; i < t.rights.size(); i++) {
                    Right x = t.rights.get(i);
                    if (x.gate != g) continue;
                    f.taken[g] += shares[i];
                    if (x.kind == 0) uses += shares[i];
                }
                f.ret[g] = t.gates.get(g).back * uses / 10;
                if (f.bad == null && f.taken[g] > t.gates.get(g).bound) f.bad = "B" + g;
                if (f.bad == null && f.taken[g] > there) f.bad = "G" + g;
                there -= f.taken[g];
                returns += f.ret[g];
            }
            f.rest[r] = there;
            for (int i = 0; i < t.rights.size(); i++) {
                Right x = t.rights.get(i);
                if (f.bad == null && x.kind == 1 && x.reach == r && shares[i] > there) f.bad = "R" + r;
            }
            f.out[r] = there + returns;
            if (reach.down != -1) f.in[reach.down] += f.out[r];
        }
        return f;
    }

    static int[] ageShares(State t, int[] springs, int[] wants) {
        int[] shares = new int[t.rights.size()];
        for (int i : byAge(t)) {
            for (int v = wants[i]; v >= 0; v--) {
                shares[i] = v;
                if (flow(t, springs, shares).bad == null) break;
            }
        }
        return shares;
    }

    static int[] placeShares(State t, int[] springs, int[] wants) {
        int[] shares = new int[t.rights.size()];
        for (int r : reachOrder(t)) {
            for (int g : gatesOf(t, r)) {
                for (int i : byAge(t)) {
                    if (t.rights.get(i).gate != g) continue;
                    // As much as there is: the greatest number with which this GATE still can FLOW.
                    for (int v = wants[i]; v >= 0; v--) {
                        shares[i] = v;
                        Flowing f = flow(t, springs, shares);
                        int there = f.in[r] - f.lost[r];
                        for (int h : gatesOf(t, r)) {
                            if (t.gates.get(h).mile <= t.gates.get(g).mile) there -= f.taken[h];
                        }
                        if (there >= 0 && f.taken[g] <= t.gates.get(g).bound) break;
                    }
                }
            }
        }
        return shares;
    }

    int[] ages() {
        return ageShares(s, springs(s), wants(s));
    }

    int[] places() {
        return placeShares(s, springs(s), wants(s));
    }

    boolean isUse(int right) {
        return s.rights.get(right).kind == 0;
    }

    boolean isLive(int right) {
        return isUse(right) && !s.rights.get(right).gone;
    }

    // ---- the river

    public int reach(int down, int spring, int loss, int way) {
        index(down == -1 || isReach(down));
        argument(in(spring, 0, 60) && in(loss, 0, 5) && in(way, 0, 3));
        state(s.reaches.size() < 6);
        step();
        Reach r = new Reach();
        r.down = down; r.spring = spring; r.loss = loss; r.way = way;
        s.reaches.add(r);
        return s.reaches.size() - 1;
    }

    public int lead(int reach, int down) {
        index(isReach(reach) && (down == -1 || isReach(down)));
        state(down == -1 || down != reach && !below(down, s).contains(reach));
        step();
        int before = s.reaches.get(reach).down;
        s.reaches.get(reach).down = down;
        return before;
    }

    public int spring(int reach, int drops) {
        index(isReach(reach));
        argument(in(drops, 0, 60));
        step();
        int before = s.reaches.get(reach).spring;
        s.reaches.get(reach).spring = drops;
        return before;
    }

    public int gate(int reach, int mile, int bound, int back) {
        index(isReach(reach));
        argument(in(mile, 0, 9) && in(bound, 1, 40) && in(back, 0, 10));
        state(s.gates.size() < 8);
        for (Gate g : s.gates) state(g.reach != reach || g.mile != mile);
        step();
        Gate g = new Gate();
        g.reach = reach; g.mile = mile; g.bound = bound; g.back = back;
        s.gates.add(g);
        return s.gates.size() - 1;
    }

    public int well(int reach, int lag) {
        index(isReach(reach));
        argument(in(lag, 1, 5));
        state(s.wells.size() < 3);
        step();
        Well w = new Well();
        w.reach = reach; w.lag = lag;
        s.wells.add(w);
        return s.wells.size() - 1;
    }

    public int pump(int well, int drops) {
        index(isWell(well));
        argument(in(drops, 0, 9));
        step();
        int before = s.wells.get(well).pump;
        s.wells.get(well).pump = drops;
        return before;
    }

    // ---- rights

    static Right use(State t, int gate, int sum, int seasons, int born) {
        Right r = new Right();
        r.gate = gate; r.sum = sum; r.wish = sum; r.seasons = seasons; r.born = born;
        for (int d = 0; d < t.day; d++) r.had.add(null);
        t.rights.add(r);
        return r;
    }

    public int right(int gate, int sum, int seasons) {
        index(isGate(gate));
        argument(in(sum, 1, s.gates.get(gate).bound) && in(seasons, 1, 15));
        state(s.rights.size() < 10);
        step();
        use(s, gate, sum, seasons, s.day);
        return s.rights.size() - 1;
    }

    public int fish(int reach, int least) {
        index(isReach(reach));
        argument(in(least, 1, 40));
        state(s.rights.size() < 10);
        step();
        Right r = use(s, -1, least, 15, s.day);
        r.kind = 1;
        r.reach = reach;
        return s.rights.size() - 1;
    }

    public int pond(int gate, int room) {
        index(isGate(gate));
        argument(in(room, 1, 60));
        state(s.ponds.size() < 3 && s.rights.size() < 10);
        step();
        Right r = use(s, gate, s.gates.get(gate).bound, 15, s.day);
        r.kind = 2;
        r.pond = s.ponds.size();
        Pond p = new Pond();
        p.right = s.rights.size() - 1;
        p.room = room;
        s.ponds.add(p);
        return r.pond;
    }

    public int wish(int right, int drops) {
        index(isRight(right));
        argument(in(drops, 0, s.rights.get(right).sum));
        step();
        int before = s.rights.get(right).wish;
        s.rights.get(right).wish = drops;
        return before;
    }

    public int born(int right, int day) {
        index(isRight(right));
        argument(in(day, 0, 999));
        step();
        int before = s.rights.get(right).born;
        s.rights.get(right).born = day;
        return before;
    }

    public int split(int right, int drops) {
        index(isRight(right));
        argument(isLive(right) && in(drops, 1, s.rights.get(right).sum - 1));
        state(s.rights.size() < 10);
        step();
        Right r = s.rights.get(right);
        r.sum -= drops;
        r.wish = r.sum;
        use(s, r.gate, drops, r.seasons, r.born);
        return s.rights.size() - 1;
    }

    public int raise(int right, int drops) {
        index(isRight(right));
        argument(isLive(right) && in(drops, 1, s.gates.get(s.rights.get(right).gate).bound));
        state(s.rights.size() < 10);
        step();
        Right r = s.rights.get(right);
        use(s, r.gate, drops, r.seasons, s.day);
        return s.rights.size() - 1;
    }

    static int moveIn(State t, int right, int gate, int drops) {
        Right r = t.rights.get(right);
        if (drops == r.sum) {
            r.gate = gate;
            return right;
        }
        r.sum -= drops;
        r.wish = r.sum;
        use(t, gate, drops, r.seasons, r.born);
        return t.rights.size() - 1;
    }

    int harmed(int right, int gate, int drops) {
        State t = s.copy();
        moveIn(t, right, gate, drops);
        int n = 0;
        for (int y = -1; y < s.years.size(); y++) {
            int[] x = y == -1 ? springs(s) : springs(s, s.years.get(y));
            int[] before = ageShares(s, x, wants(s));
            int[] after = ageShares(t, x, wants(t));
            for (int i = 0; i < before.length; i++) if (i != right && after[i] < before[i]) n++;
        }
        return n;
    }

    public int move(int right, int gate, int drops) {
        index(isRight(right) && isGate(gate));
        argument(isLive(right) && s.rights.get(right).gate != gate);
        Right r = s.rights.get(right);
        argument(in(drops, 1, Math.min(r.sum, s.gates.get(gate).bound)));
        int a = s.gates.get(r.gate).reach;
        int b = s.gates.get(gate).reach;
        state(a == b || below(a, s).contains(b) || below(b, s).contains(a));
        state(drops == r.sum || s.rights.size() < 10);
        if (harmed(right, gate, drops) > 0) {
            refused++;
            return -9;
        }
        step();
        return moveIn(s, right, gate, drops);
    }

    // ---- days

    public int run(int days) {
        argument(in(days, 1, 20));
        step();
        int total = 0;
        for (int k = 0; k < days; k++) {
            int[] shares = ages();
            for (int i = 0; i < shares.length; i++) {
                Right r = s.rights.get(i);
                r.had.add(shares[i]);
                if (r.kind != 1) total += shares[i];
                if (r.kind == 0 && inSeason(r, s) && !r.gone) r.debt -= r.wish - want(r, s);
                r.idle = shares[i] > 0 ? 0 : r.idle + 1;
                if (r.kind == 0 && r.idle == 40) r.gone = true;
            }
            for (int p = 0; p < s.ponds.size(); p++) {
                Pond pond = s.ponds.get(p);
                pond.accounts[p] += shares[pond.right];
                pond.filled += shares[pond.right];
            }
            for (Pond pond : s.ponds) {
                for (int o = 0; o < 3; o++) pond.accounts[o] -= pond.accounts[o] / 10;
                pond.letYesterday = pond.letToday;
                pond.letToday = 0;
            }
            for (Well w : s.wells) w.pumped.add(w.pump);
            s.day++;
            if (s.day % 40 == 0) for (Pond pond : s.ponds) pond.filled = 0;
        }
        return total;
    }

    public int year(int a, int b, int c, int d, int e, int f) {
        int[] y = {a, b, c, d, e, f};
        for (int v : y) argument(in(v, 0, 20));
        state(s.years.size() < 4);
        step();
        s.years.add(y);
        return s.years.size() - 1;
    }

    public int forget() {
        step();
        int n = s.years.size();
        s.years.clear();
        return n;
    }

    public int measure(int right, int ago, int drops) {
        index(isRight(right));
        argument(isUse(right) && in(ago, 1, 5) && in(drops, 0, 40));
        Right r = s.rights.get(right);
        int at = s.day - ago;
        state(at >= 0 && r.had.get(at) != null);
        step();
        r = s.rights.get(right);
        r.debt += drops - r.had.get(at);
        r.had.set(at, drops);
        return r.debt;
    }

    // ---- ponds and the ditch house

    public int let(int owner, int pond, int drops) {
        index(isPond(owner) && isPond(pond));
        argument(in(drops, 1, 60));
        if (s.ponds.get(pond).accounts[owner] < drops) {
            refused++;
            return -9;
        }
        step();
        s.ponds.get(pond).accounts[owner] -= drops;
        s.ponds.get(pond).letToday += drops;
        return s.ponds.get(pond).accounts[owner];
    }

    public int carry(int owner, int from, int to) {
        index(isPond(owner) && isPond(from) && isPond(to));
        argument(from != to);
        step();
        Pond a = s.ponds.get(from);
        Pond b = s.ponds.get(to);
        int n = 0;
        while (a.accounts[owner] > 0 && all(b) < b.room) {
            a.accounts[owner]--;
            b.accounts[owner]++;
            n++;
        }
        return n;
    }

    public int member(int area, int parts) {
        argument(in(area, 1, 9) && in(parts, 1, 9));
        state(s.members.size() < 5);
        step();
        Member m = new Member();
        m.area = area;
        m.parts = parts;
        s.members.add(m);
        int allParts = 0;
        for (Member x : s.members) allParts += x.parts;
        int[] many = new int[s.members.size()];
        int left = 24;
        for (int i = 0; i < many.length; i++) {
            many[i] = 24 * s.members.get(i).parts / allParts;
            left -= many[i];
        }
        for (int i = 0; left > 0; i++, left--) many[i]++;
        int h = 0;
        for (int i = 0; i < many.length; i++) for (int k = 0; k < many[i]; k++) s.forGood[h++] = i;
        Arrays.fill(s.sold, -1);
        return s.members.size() - 1;
    }

    public int swap(int one, int other) {
        argument(in(one, 0, 23) && in(other, 0, 23));
        state(!s.members.isEmpty());
        step();
        int a = s.forGood[one];
        int b = s.forGood[other];
        s.forGood[one] = b;
        s.forGood[other] = a;
        return a != b ? 1 : 0;
    }

    int has(int h) {
        return s.sold[h] != -1 ? s.sold[h] : s.forGood[h];
    }

    public int sell(int hour, int member) {
        index(isMember(member));
        argument(in(hour, 0, 23));
        step();
        int before = has(hour);
        s.sold[hour] = member;
        return before;
    }

    public int feast(int hours) {
        argument(in(hours, 1, 23));
        step();
        int[] g = s.forGood.clone();
        int[] b = s.sold.clone();
        for (int h = 0; h < 24; h++) {
            s.forGood[(h + hours) % 24] = g[h];
            s.sold[(h + hours) % 24] = b[h];
        }
        return has(0);
    }

    public int round() {
        step();
        int n = 0;
        for (int h = 0; h < 24; h++) {
            if (s.sold[h] != -1) n++;
            s.sold[h] = -1;
        }
        return n;
    }

    // ---- steps back, texts

    public int undo() {
        state(!past.isEmpty());
        s = past.remove(past.size() - 1);
        return past.size();
    }

    public int type(int sign) {
        argument(in(sign, 0, 14));
        state(signs.size() < 60);
        signs.add(sign);
        return signs.size();
    }

    public int wipe() {
        int n = signs.size();
        signs.clear();
        return n;
    }

    public String slip() {
        StringBuilder b = new StringBuilder();
        for (int x : signs) b.append("0123456789 ;grf".charAt(x));
        return b.toString();
    }

    static final String NUMBER = " [0-9][0-9]?";
    static final String STATEMENTS = "(g" + NUMBER.repeat(4) + ";|r" + NUMBER.repeat(3) + ";|f" + NUMBER.repeat(2) + ";)*";

    /** Whether something can follow so that it tells STATEMENTS. */
    static boolean canBegin(String text) {
        java.util.regex.Matcher m = java.util.regex.Pattern.compile(STATEMENTS).matcher(text);
        return m.matches() || m.hitEnd();
    }

    public int fault() {
        String t = slip();
        if (t.matches(STATEMENTS)) return -1;
        for (int k = 1; k <= t.length(); k++) if (!canBegin(t.substring(0, k))) return k - 1;
        return t.length();
    }

    public int read() {
        if (fault() != -1) {
            refused++;
            return -7;
        }
        int done = 0;
        List<State> before = new ArrayList<>(past);
        State first = s.copy();
        for (String one : slip().split(";")) {
            if (one.isEmpty()) continue;
            String[] w = one.split(" ");
            try {
                if (w[0].equals("g")) gate(n(w[1]), n(w[2]), n(w[3]), n(w[4]));
                else if (w[0].equals("r")) right(n(w[1]), n(w[2]), n(w[3]));
                else fish(n(w[1]), n(w[2]));
            } catch (IndexOutOfBoundsException | IllegalArgumentException | IllegalStateException e) {
                break;
            }
            done++;
        }
        past = before;
        if (done > 0) {
            past.add(first);
            if (past.size() > 8) past.remove(0);
        }
        return done;
    }

    static int n(String w) {
        return Integer.parseInt(w);
    }

    public int knock() {
        return ++knocked;
    }

    // ---- who gets how much

    public int share(int right, boolean isAge) {
        index(isRight(right));
        return isAge ? ages()[right] : places()[right];
    }

    public int byAge(int nth) {
        index(isRight(nth));
        return byAge(s).get(nth);
    }

    public String why(int right) {
        index(isRight(right));
        int[] shares = ages();
        if (shares[right] >= want(s.rights.get(right), s)) return "-";
        return right + because(right, shares);
    }

    String because(int right, int[] shares) {
        Right r = s.rights.get(right);
        if (shares[right] >= want(r, s)) return "";
        List<Integer> order = byAge(s);
        int at = order.indexOf(right);
        int[] x = new int[shares.length];
        for (int k = 0; k < at; k++) x[order.get(k)] = shares[order.get(k)];
        x[right] = shares[right] + 1;
        Flowing f = flow(s, springs(s), x);
        int spot = Integer.parseInt(f.bad.substring(1));
        if (f.bad.charAt(0) == 'B') return "<" + f.bad;
        if (r.kind == 1 || f.bad.charAt(0) == 'G' && spot == r.gate) return "<D";
        int shutter = -1;
        for (int i : order) {
            Right o = s.rights.get(i);
            if (f.bad.charAt(0) == 'G' && o.gate == spot && x[i] > 0) shutter = i;
            if (f.bad.charAt(0) == 'R' && o.kind == 1 && o.reach == spot && x[i] > f.rest[spot]) shutter = i;
        }
        return "<" + shutter + because(shutter, shares);
    }

    public String calls(int right) {
        index(isRight(right));
        int[] shares = places();
        List<String> told = new ArrayList<>();
        if (s.rights.get(right).kind == 1 || shares[right] >= want(s.rights.get(right), s)) return "";
        List<Integer> order = byAge(s);
        for (int k = order.size() - 1; order.get(k) != right; k--) {
            int y = order.get(k);
            if (s.rights.get(y).kind == 1 || shares[y] == 0) continue;
            int[] w = wants(s);
            w[y] = 0;
            boolean futile = placeShares(s, springs(s), w)[right] <= shares[right];
            told.add(y + (futile ? "-" : "+"));
        }
        return String.join(" ", told);
    }

    public int harms(int right, int gate, int drops) {
        index(isRight(right) && isGate(gate));
        argument(isLive(right) && s.rights.get(right).gate != gate);
        argument(in(drops, 1, Math.min(s.rights.get(right).sum, s.gates.get(gate).bound)));
        return harmed(right, gate, drops);
    }

    public int greatest(int right, int gate) {
        index(isRight(right) && isGate(gate));
        argument(isLive(right) && s.rights.get(right).gate != gate);
        int most = 0;
        for (int d = 1; d <= Math.min(s.rights.get(right).sum, s.gates.get(gate).bound); d++) {
            if (harmed(right, gate, d) > 0) break;
            most = d;
        }
        return most;
    }

    public int sure(int right, int what) {
        index(isRight(right));
        argument(in(what, 0, 2));
        int full = 0;
        int least = -1;
        int first = -1;
        for (int y = 0; y < s.years.size(); y++) {
            int v = ageShares(s, springs(s, s.years.get(y)), wants(s))[right];
            if (v == want(s.rights.get(right), s)) full++;
            if (least == -1 || v < least) {
                least = v;
                first = y;
            }
        }
        return what == 0 ? full : what == 1 ? least : first;
    }

    public String surety(int right) {
        index(isRight(right));
        int a = 0;
        int b = 0;
        for (int[] y : s.years) {
            a += ageShares(s, springs(s, y), wants(s))[right];
            b += want(s.rights.get(right), s);
        }
        if (b == 0) return "-";
        int g = java.math.BigInteger.valueOf(a).gcd(java.math.BigInteger.valueOf(b)).intValue();
        return a / g + "/" + b / g;
    }

    int balance(int what, int[] shares) {
        int[] x = springs(s);
        Flowing f = flow(s, x, shares);
        int n = 0;
        for (int i = 0; i < x.length; i++) {
            if (what == 0) n += x[i];
            if (what == 2) n += f.lost[i];
            if (what == 4 && s.reaches.get(i).down == -1) n += f.out[i];
        }
        for (int i = 0; i < shares.length; i++) {
            if (what == 1 && s.rights.get(i).kind == 0) n += shares[i];
            if (what == 3 && s.rights.get(i).kind == 2) n += shares[i];
        }
        if (what == 1) for (int v : f.ret) n -= v;
        return n;
    }

    public int balance(int what) {
        argument(in(what, 0, 4));
        return balance(what, ages());
    }

    // ---- what there is

    public int ofReach(int reach, int what) {
        index(isReach(reach));
        argument(in(what, 0, 10));
        Reach r = s.reaches.get(reach);
        Flowing f = flow(s, springs(s), ages());
        int way = r.way;
        for (int b : below(reach, s)) way += s.reaches.get(b).way;
        int[] v = {r.down, r.spring, r.loss, r.way, springs(s)[reach], f.in[reach], f.lost[reach], f.rest[reach],
            f.out[reach], way, gatesOf(s, reach).size()};
        return v[what];
    }

    public int ofGate(int gate, int what) {
        index(isGate(gate));
        argument(in(what, 0, 7));
        Gate g = s.gates.get(gate);
        int[] shares = ages();
        Flowing f = flow(s, springs(s), shares);
        int many = 0;
        int isShort = 0;
        for (int i = 0; i < shares.length; i++) {
            if (s.rights.get(i).gate != gate) continue;
            many++;
            if (shares[i] < want(s.rights.get(i), s)) isShort = 1;
        }
        int[] v = {g.reach, g.mile, g.bound, g.back, f.taken[gate], f.ret[gate], many, isShort};
        return v[what];
    }

    public int ofRight(int right, int what) {
        index(isRight(right));
        argument(in(what, 0, 10));
        Right r = s.rights.get(right);
        int[] v = {r.kind, r.kind == 1 ? r.reach : r.gate, r.born, r.sum, r.seasons, r.wish, want(r, s), r.debt, r.idle,
            r.gone ? 1 : 0, r.pond};
        return v[what];
    }

    public int had(int right, int ago) {
        index(isRight(right));
        argument(in(ago, 1, 5));
        int at = s.day - ago;
        if (at < 0 || s.rights.get(right).had.get(at) == null) return -1;
        return s.rights.get(right).had.get(at);
    }

    public int ofPond(int pond, int what) {
        index(isPond(pond));
        argument(in(what, 0, 7));
        Pond p = s.ponds.get(pond);
        int[] v = {p.right, p.room, all(p), p.filled, p.accounts[0], p.accounts[1], p.accounts[2], p.letToday};
        return v[what];
    }

    public int ofWell(int well, int what) {
        index(isWell(well));
        argument(in(what, 0, 3));
        Well w = s.wells.get(well);
        int[] v = {w.reach, w.lag, w.pump, pumpedBefore(w)};
        return v[what];
    }

    int[] portions(int how, int sum) {
        int n = s.members.size();
        int[] v = new int[n];
        if (how == 2) {
            int[] a = portions(0, (sum + 1) / 2);
            int[] b = portions(1, sum - (sum + 1) / 2);
            for (int i = 0; i < n; i++) v[i] = a[i] + b[i];
            return v;
        }
        int allAreas = 0;
        for (Member m : s.members) allAreas += m.area;
        int left = sum;
        for (int i = 0; i < n; i++) {
            v[i] = how == 0 ? sum / n : sum * s.members.get(i).area / allAreas;
            left -= v[i];
        }
        for (int i = 0; left > 0; i++, left--) v[i]++;
        return v;
    }

    public int portion(int how, int member, int drops) {
        index(isMember(member));
        argument(in(how, 0, 2) && in(drops, 0, 999));
        return portions(how, drops)[member];
    }

    public int hour(int hour, boolean isSold) {
        argument(in(hour, 0, 23));
        return isSold ? has(hour) : s.forGood[hour];
    }

    public String hours(int member, boolean isNight) {
        index(isMember(member));
        List<String> told = new ArrayList<>();
        for (int h = 0; h < 24; h++) {
            if (has(h) == member && (!isNight || in(h, 0, 5) || in(h, 18, 23))) told.add("" + h);
        }
        return String.join(" ", told);
    }

    public int house(int what) {
        argument(in(what, 0, 10));
        int[] v = {s.reaches.size(), s.gates.size(), s.rights.size(), s.day, s.years.size(), s.members.size(), past.size(),
            refused, knocked, s.ponds.size(), s.wells.size()};
        return v[what];
    }

    public boolean isSound() {
        int[] x = springs(s);
        int[] w = wants(s);
        int[] shares = ages();
        List<Integer> order = byAge(s);
        int[] drops = new int[shares.length];
        for (int i : order) {
            while (drops[i] < w[i]) {
                drops[i]++;
                if (flow(s, x, drops).bad != null) {
                    drops[i]--;
                    break;
                }
            }
        }
        boolean ok = Arrays.equals(drops, shares) && flow(s, x, shares).bad == null;
        for (int k = 0; k < order.size(); k++) {
            int i = order.get(k);
            int[] v = w.clone();
            for (int j = k + 1; j < order.size(); j++) {
                v[order.get(j)] = 0;
                if (shares[i] < w[i]) {
                    int[] one = w.clone();
                    one[order.get(j)] = 0;
                    ok &= ageShares(s, x, one)[i] == shares[i];
                }
            }
            ok &= ageShares(s, x, v)[i] == shares[i];
        }
        for (int[] y : new int[][] {shares, places()}) {
            ok &= balance(0, y) == balance(1, y) + balance(2, y) + balance(3, y) + balance(4, y);
        }
        for (Pond p : s.ponds) ok &= all(p) <= p.room;
        for (int h = 0; h < 24 && !s.members.isEmpty(); h++) ok &= isMember(s.forGood[h]) && isMember(has(h));
        return ok;
    }

    public long digest() {
        List<Long> v = new ArrayList<>();
        for (int i = 0; i <= 10; i++) v.add((long) house(i));
        for (int r = 0; r < s.reaches.size(); r++) for (int i = 0; i <= 10; i++) v.add((long) ofReach(r, i));
        for (int g = 0; g < s.gates.size(); g++) for (int i = 0; i <= 7; i++) v.add((long) ofGate(g, i));
        for (int r = 0; r < s.rights.size(); r++) {
            for (int i = 0; i <= 10; i++) v.add((long) ofRight(r, i));
            v.add((long) share(r, true));
            v.add((long) share(r, false));
            for (int i = 0; i <= 2; i++) v.add((long) sure(r, i));
            v.add((long) why(r).length());
            v.add((long) calls(r).length());
            v.add((long) surety(r).length());
            for (int i = 1; i <= 5; i++) v.add((long) had(r, i));
        }
        for (int i = 0; i <= 4; i++) v.add((long) balance(i));
        for (int p = 0; p < s.ponds.size(); p++) for (int i = 0; i <= 7; i++) v.add((long) ofPond(p, i));
        for (int w = 0; w < s.wells.size(); w++) for (int i = 0; i <= 3; i++) v.add((long) ofWell(w, i));
        for (int m = 0; m < s.members.size(); m++) for (int i = 0; i <= 2; i++) v.add((long) portion(i, m, 100));
        for (int h = 0; h < 24; h++) v.add((long) hour(h, true));
        v.add((long) fault());
        v.add((long) slip().length());
        v.add(isSound() ? 1L : 0L);
        long d = 6510;
        for (long x : v) d = d * 31 + x;
        return d;
    }
}
