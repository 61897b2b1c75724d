import java.util.ArrayList;
import java.util.Arrays;
import java.util.HashMap;
import java.util.List;
import java.util.Map;
import java.util.TreeSet;

/**
 * The document once more, for the tests alone, as near to its words as can be: nothing is kept that could be
 * found anew, and all is found by trying all. Its calls bear the names of the face.
 */
public final class Model {
    private static final int NONE = -1000000, BAD = -1000001, STATE = -1000002, FULL = -1000003;
    private static final int[][] COURSES = {{0, -100}, {38, -92}, {71, -71}, {92, -38}, {100, 0}, {92, 38}, {71, 71},
        {38, 92}, {0, 100}, {-38, 92}, {-71, 71}, {-92, 38}, {-100, 0}, {-92, -38}, {-71, -71}, {-38, -92}};
    private static final List<String> SUBJECTS = List.of("speed", "near", "fog", "night", "water");
    private static final List<String> ACTS = List.of("slow", "sound", "light", "turn");

    private final int[][] sheets = new int[8][];
    private final int[] lanes = new int[8];
    private final List<int[]> ships = new ArrayList<>(), orders = new ArrayList<>(), darks = new ArrayList<>();
    private final int[][] tides = new int[240][2];
    private final int[] hull = {100, 100, 100, 100, 100, 100, 0, 300};
    private final List<int[]> doors = new ArrayList<>(), holes = new ArrayList<>();
    private final List<int[]> facts = new ArrayList<>(), dones = new ArrayList<>();
    private final Map<Integer, Integer> gone = new HashMap<>();
    private final StringBuilder tape = new StringBuilder();
    private List<List<Object>> rules = new ArrayList<>();
    private final List<Integer> trace = new ArrayList<>();
    private int fault = 0, status = 0;

    private static boolean in(int v, int a, int b) {
        return a <= v && v <= b;
    }

    private int find(int number) {
        status = number;
        return -1000010 - number;
    }

    private int fine(int answer) {
        status = 0;
        return answer;
    }

    private static int told(List<int[]> list, int most, int... row) {
        if (list.size() == most) {
            return FULL;
        }
        list.add(row);
        return list.size();
    }

    public int sheet(int s, int lane, int n) {
        if (!in(s, 0, 7) || !in(lane, 0, 2) || n > 120) return BAD;
        if (n < 0) return find(4);
        sheets[s] = new int[n];
        lanes[s] = lane;
        return fine(n);
    }

    public int set(int s, int i, int v) {
        if (!in(s, 0, 7)) return BAD;
        if (sheets[s] == null) return find(1);
        if (!in(i, 0, sheets[s].length - 1)) return find(2);
        int off = 32 - (8 << lanes[s]);
        sheets[s][i] = v << off >> off;
        return fine(sheets[s][i]);
    }

    public int copy(int a, int i, int b, int j, int n) {
        if (!in(a, 0, 7) || !in(b, 0, 7)) return BAD;
        if (sheets[a] == null || sheets[b] == null) return find(1);
        if (lanes[a] != lanes[b]) return find(5);
        if (i < 0 || j < 0 || n < 0 || (long) i + n > sheets[a].length || (long) j + n > sheets[b].length) return find(2);
        int[] old = sheets[a].clone();
        for (int k = 0; k < n; k++) sheets[b][j + k] = old[i + k];
        return fine(n);
    }

    public int drop(int s) {
        if (!in(s, 0, 7)) return BAD;
        if (sheets[s] == null) return find(1);
        int n = sheets[s].length;
        sheets[s] = null;
        return fine(n);
    }

    public int ship(int x, int y) {
        if (!in(x, -10000, 10000) || !in(y, -10000, 10000)) return BAD;
        int n = told(ships, 4, x, y);
        return n == FULL ? FULL : n - 1;
    }

    public int order(int ship, int minute, int course, int speed) {
        if (!in(ship, 0, ships.size() - 1) || !in(minute, 0, 239) || !in(course, 0, 15) || !in(speed, 0, 50)) return BAD;
        return told(orders, 60, ship, minute, course, speed);
    }

    public int tide(int minute, int s, int i, int n) {
        if (!in(minute, 0, 239) || !in(n, 1, 60) || minute + n - 1 > 239 || !in(s, 0, 7)) return BAD;
        if (sheets[s] == null) return find(1);
        if (i < 0 || (long) i + 2 * n > sheets[s].length) return find(2);
        for (int k = 0; k < 2 * n; k++) if (!in(sheets[s][i + k], -20, 20)) return BAD;
        for (int k = 0; k < 2 * n; k++) tides[minute + k / 2][k % 2] = sheets[s][i + k];
        return fine(n);
    }

    public int dark(int what, int from, int to) {
        if (!in(what, 0, 1) || !in(from, 0, 239) || !in(to, 1, 240) || to <= from) return BAD;
        return told(darks, 10, what, from, to);
    }

    private static int[] latest(List<int[]> list, int who, int minute) {
        int[] best = null;
        for (int[] o : list) if (o[0] == who && o[1] <= minute && (best == null || o[1] >= best[1])) best = o;
        return best;
    }

    private int held(int ship, int minute, int which) {
        int[] o = latest(orders, ship, minute);
        return o == null ? 0 : o[which];
    }

    private int[] place(int ship, int minute) {
        int[] p = ships.get(ship).clone();
        for (int m = 0; m < minute; m++) {
            for (int k = 0; k < 2; k++) p[k] += COURSES[held(ship, m, 2)][k] * held(ship, m, 3) / 100 + tides[m][k];
        }
        return p;
    }

    private static int far(int[] a, int[] b) {
        long dx = a[0] - b[0], dy = a[1] - b[1], v = dx * dx + dy * dy;
        long r = (long) Math.sqrt((double) v);
        while (r * r > v) r--;
        while ((r + 1) * (r + 1) <= v) r++;
        return (int) r;
    }

    private int isDark(int what, int minute) {
        for (int[] d : darks) if (d[0] == what && d[1] <= minute && minute < d[2]) return 1;
        return 0;
    }

    private int near(int ship, int minute) {
        int sight = isDark(0, minute) == 1 ? 100 : isDark(1, minute) == 1 ? 500 : 1000, least = 9999;
        for (int s = 0; s < ships.size(); s++) {
            int far = far(place(ship, minute), place(s, minute));
            if (s != ship && far <= sight && far < least) least = far;
        }
        return least;
    }

    public int where(int ship, int minute, int what) {
        if (!in(ship, 0, ships.size() - 1) || !in(what, 0, 4) || !in(minute, 0, what < 2 ? 240 : 239)) return BAD;
        if (what < 2) return place(ship, minute)[what];
        return what == 4 ? near(ship, minute) : held(ship, minute, what);
    }

    public int nearest(int a, int b, int what) {
        if (!in(a, 0, ships.size() - 1) || !in(b, 0, ships.size() - 1) || a == b || !in(what, 0, 1)) return BAD;
        int[] fars = new int[241];
        for (int m = 0; m <= 240; m++) fars[m] = far(place(a, m), place(b, m));
        int least = Arrays.stream(fars).min().getAsInt(), first = 0;
        while (fars[first] != least) first++;
        return what == 0 ? first : least;
    }

    public int hull(int what, int v) {
        if (!in(what, 0, 7) || !in(v, what == 6 ? 0 : 1, what < 6 ? 1000 : what == 6 ? 100 : 6000)) return BAD;
        int old = hull[what];
        hull[what] = v;
        return old;
    }

    public int door(int door, int minute, int open) {
        if (!in(door, 0, 4) || !in(minute, 0, 239) || !in(open, 0, 1)) return BAD;
        return told(doors, 30, door, minute, open);
    }

    public int hole(int hold, int minute, int rate) {
        if (!in(hold, 0, 5) || !in(minute, 0, 239) || !in(rate, 1, 100)) return BAD;
        return told(holes, 10, hold, minute, rate);
    }

    private boolean isOpen(int door, int minute, int thing, int v) {
        if (thing < 2 && thing >= 0 && v == door) return thing == 1;
        int[] d = latest(doors, door, minute);
        return d == null || d[2] == 1;
    }

    /** Drop by drop through holes, doors and pump. */
    private int[] levels(int minute, int thing, int v) {
        int[] w = new int[6];
        for (int m = 0; m < minute; m++) {
            for (int h = 0; h < holes.size(); h++) {
                int[] hole = holes.get(h);
                for (int k = 0; k < hole[2] && hole[1] <= m && !(thing == 3 && v == h); k++) if (w[hole[0]] < hull[hole[0]]) w[hole[0]]++;
            }
            for (int d = 0; d < 5; d++) {
                if (!isOpen(d, m, thing, v)) continue;
                int from = w[d] >= w[d + 1] ? d : d + 1, to = 2 * d + 1 - from, half = (w[from] - w[to]) / 2;
                for (int k = 0; k < half && w[to] < hull[to]; k++) {
                    w[to]++;
                    w[from]--;
                }
            }
            int most = Arrays.stream(w).max().getAsInt(), hold = 0;
            while (w[hold] != most) hold++;
            w[hold] = Math.max(0, w[hold] - (thing == 2 ? v : hull[6]));
        }
        return w;
    }

    public int water(int hold, int minute) {
        if (!in(minute, 0, 240) || (hold != NONE && !in(hold, 0, 5))) return BAD;
        int[] w = levels(minute, -1, 0);
        return hold == NONE ? Arrays.stream(w).sum() : w[hold];
    }

    private int sinking(int thing, int v) {
        for (int m = 1; m <= 240; m++) if (Arrays.stream(levels(m, thing, v)).sum() >= hull[7]) return m;
        return NONE;
    }

    public int sinks() {
        return sinking(-1, 0);
    }

    public int other(int thing, int v) {
        if (!in(thing, 0, 3) || !in(v, 0, thing < 2 ? 4 : thing == 2 ? 100 : holes.size() - 1)) return BAD;
        return sinking(thing, v);
    }

    public int fact(int sort, int ship, int minute, int x, int y, int doubt, int person, int day) {
        if (!in(sort, 0, 3) || !in(ship, 0, 3) || !in(minute, 0, 239) || !in(x, -10000, 10000) || !in(y, -10000, 10000)
            || !in(doubt, 0, 2000) || !in(person, 0, 2) || !in(day, 0, 99)) return BAD;
        int n = told(facts, 12, sort, ship, minute, x, y, doubt, person, day);
        return n == FULL ? FULL : n - 1;
    }

    private boolean isWord(int f) {
        return facts.get(f)[0] == 1 || facts.get(f)[0] == 2;
    }

    private boolean noFact(int f) {
        return !in(f, 0, facts.size() - 1);
    }

    public int withdraw(int f, int day) {
        if (noFact(f) || !in(day, facts.get(f)[7], 99)) return BAD;
        if (!isWord(f) || gone.containsKey(f)) return STATE;
        gone.put(f, day);
        return 1;
    }

    private boolean doQuarrel(int a, int b, int[] clocks) {
        int[] p = facts.get(a), q = facts.get(b);
        int t = p[2] + (isWord(a) ? clocks[p[6]] : 0), u = q[2] + (isWord(b) ? clocks[q[6]] : 0);
        int far = far(new int[] {p[3], p[4]}, new int[] {q[3], q[4]});
        return p[1] == q[1] && far > p[5] + q[5] + 50 * Math.abs(t - u);
    }

    public int quarrel(int a, int b, int c0, int c1, int c2) {
        if (noFact(a) || noFact(b) || a == b || !in(c0, -3, 3) || !in(c1, -3, 3) || !in(c2, -3, 3)) return BAD;
        return doQuarrel(a, b, new int[] {c0, c1, c2}) ? 1 : 0;
    }

    private boolean isHeard(int f, int day) {
        return facts.get(f)[7] <= day && !(gone.containsKey(f) && gone.get(f) <= day);
    }

    private int heard(int day) {
        int set = 0;
        for (int f = 0; f < facts.size(); f++) if (isHeard(f, day)) set |= 1 << f;
        return set;
    }

    /** All sets by all clocks. */
    private TreeSet<Integer> rivals(int day) {
        int all = heard(day), most = 0;
        TreeSet<Integer> found = new TreeSet<>();
        for (int c = 0; c < 343; c++) {
            int[] against = new int[12], clocks = {c % 7 - 3, c / 7 % 7 - 3, c / 49 - 3};
            for (int a = 0; a < facts.size(); a++) {
                for (int b = 0; b < facts.size(); b++) if (a != b && doQuarrel(a, b, clocks)) against[a] |= 1 << b;
            }
            for (int set = 0; set < 1 << facts.size(); set++) {
                if ((set & ~all) != 0 || Integer.bitCount(set) < most) continue;
                boolean fits = true;
                for (int f = 0; f < facts.size() && fits; f++) fits = (set >> f & 1) == 0 || (against[f] & set) == 0;
                if (!fits) continue;
                if (Integer.bitCount(set) > most) found.clear();
                most = Integer.bitCount(set);
                found.add(set);
            }
        }
        return found;
    }

    private static int having(TreeSet<Integer> rivals, int f) {
        return (int) rivals.stream().filter(set -> (set >> f & 1) == 1).count();
    }

    public int court(int day, int what) {
        if (!in(day, 0, 99) || !in(what, 0, 7)) return BAD;
        if (what == 2) return Integer.bitCount(heard(day));
        TreeSet<Integer> rivals = rivals(day);
        int sure = 0, open = 0, look = NONE, left = NONE;
        for (int f = 0; f < facts.size(); f++) {
            int have = having(rivals, f), not = rivals.size() - have;
            if (not == 0) sure++;
            if (have == 0 || not == 0) continue;
            open++;
            if (look == NONE || Math.max(have, not) < left) {
                look = f;
                left = Math.max(have, not);
            }
        }
        return new int[] {Integer.bitCount(rivals.first()), rivals.size(), 0, rivals.first(), sure, open, look, left}[what];
    }

    public int sure(int f, int day) {
        if (noFact(f) || !in(day, 0, 99)) return BAD;
        if (!isHeard(f, day)) return NONE;
        TreeSet<Integer> rivals = rivals(day);
        int have = having(rivals, f);
        return have == rivals.size() ? 2 : have > 0 ? 1 : 0;
    }

    public int feed(long w, int n) {
        if (!in(n, 1, 8)) return BAD;
        if (tape.length() + n > 400) return FULL;
        for (int k = n - 1; k >= 0; k--) tape.append((char) (w >>> 8 * k & 255));
        return tape.length();
    }

    /** What may stand where, by states: 0 if, 1 subject, 2 sign, 3 number, 4 and or must, 5 act, 6 semicolon. */
    private static boolean stands(int state, String token) {
        switch (state) {
            case 0: return token.equals("if");
            case 1: return SUBJECTS.contains(token);
            case 2: return token.matches("[<>=]");
            case 3: return token.matches("[0-9]{1,4}");
            case 4: return token.equals("and") || token.equals("must");
            case 5: return ACTS.contains(token);
            default: return token.equals(";");
        }
    }

    public int rules() {
        String text = tape.toString();
        tape.setLength(0);
        java.util.regex.Matcher tokens = java.util.regex.Pattern.compile("[a-z]+|[0-9]+|[^ \n]", java.util.regex.Pattern.DOTALL).matcher(text);
        List<List<Object>> read = new ArrayList<>();
        List<Object> rule = null;
        int state = 0;
        while (tokens.find()) {
            String token = tokens.group();
            int wrong = !stands(state, token) ? 1 : token.equals("and") && rule.size() == 9 ? 2 : state == 0 && read.size() == 10 ? 3 : 0;
            if (wrong != 0) {
                fault = wrong;
                return -1000100 - tokens.start();
            }
            if (state == 0) rule = new ArrayList<>();
            else if (state != 4 && state != 6) rule.add(token);
            else if (state == 6) read.add(rule);
            state = state == 4 && token.equals("and") ? 1 : (state + 1) % 7;
        }
        if (state != 0) {
            fault = 1;
            return -1000100 - text.length();
        }
        rules = read;
        return read.size();
    }

    public int fault() {
        return fault;
    }

    public int done(int ship, int act, int from, int to) {
        if (!in(ship, 0, ships.size() - 1) || !in(act, 0, 3) || !in(from, 0, 239) || !in(to, 1, 240) || to <= from) return BAD;
        return told(dones, 40, ship, act, from, to);
    }

    private boolean holds(List<Object> rule, int[] values) {
        for (int i = 0; i + 2 < rule.size(); i += 3) {
            int value = values[SUBJECTS.indexOf(rule.get(i))], number = Integer.parseInt((String) rule.get(i + 2));
            if (!rule.get(i + 1).equals(value < number ? "<" : value > number ? ">" : "=")) return false;
        }
        return true;
    }

    private int owed(int ship, int minute, int act) {
        int[] values = {held(ship, minute, 3), near(ship, minute), isDark(0, minute), isDark(1, minute),
            ship == 0 ? water(NONE, minute) : 0};
        for (int r = 0; r < rules.size(); r++) {
            List<Object> rule = rules.get(r);
            if (rule.get(rule.size() - 1).equals(ACTS.get(act)) && holds(rule, values)) return r;
        }
        return NONE;
    }

    public int owes(int ship, int minute, int act) {
        if (!in(ship, 0, ships.size() - 1) || !in(minute, 0, 239) || !in(act, 0, 3)) return BAD;
        return owed(ship, minute, act);
    }

    private boolean hasDone(int ship, int act, int minute) {
        return dones.stream().anyMatch(d -> d[0] == ship && d[1] == act && d[2] <= minute && minute < d[3]);
    }

    public int blame(int ship, int what) {
        if (!in(ship, 0, ships.size() - 1) || !in(what, 0, 3)) return BAD;
        List<int[]> all = new ArrayList<>();
        for (int m = 0; m < 240 && !rules.isEmpty(); m++) {
            for (int act = 0; act < 4; act++) {
                if (hasDone(ship, act, m)) continue;
                int rule = owed(ship, m, act);
                if (rule != NONE) all.add(new int[] {0, m, act, rule});
            }
        }
        return what == 0 ? all.size() : all.isEmpty() ? NONE : all.get(0)[what];
    }

    public int kind(int f) {
        return noFact(f) ? BAD : gone.containsKey(f) ? 4 : facts.get(f)[0];
    }

    public int as(int f, int kind) {
        if (noFact(f) || !in(kind, 0, 4)) return BAD;
        int[][] are = {{0}, {0, 1}, {0, 1, 2}, {0, 3}, {0, 1, 4}};
        boolean is = Arrays.stream(are[kind(f)]).anyMatch(k -> k == kind);
        return is ? fine(facts.get(f)[2]) : find(3);
    }

    private int body(int f, int number) {
        int[] fact = facts.get(f);
        trace.add(number);
        switch (number) {
            case 10: return fact[5];
            case 11: return body(f, 10) + fact[2];
            case 12: return body(f, 11) * 2;
            case 13: return body(f, 11) - asked(f, 1);
            case 14: return body(f, 10) / 2;
            case 20: return fact[1];
            case 21: return body(f, 20) + fact[6];
            case 22: return body(f, 21) + 100;
            default: return body(f, 20) + asked(f, 0);
        }
    }

    private int asked(int f, int what) {
        int[][] bodies = {{10, 11, 12, 14, 13}, {20, 21, 21, 23, 22}};
        return body(f, bodies[what][kind(f)]);
    }

    public int ask(int f, int what) {
        if (noFact(f) || !in(what, 0, 1)) return BAD;
        trace.clear();
        return asked(f, what);
    }

    public int trace(int i) {
        return in(i, 0, Math.min(16, trace.size()) - 1) ? trace.get(i) : NONE;
    }

    public int count(int what) {
        if (!in(what, 0, 8)) return BAD;
        int there = (int) Arrays.stream(sheets).filter(s -> s != null).count();
        return new int[] {there, ships.size(), orders.size(), facts.size(), gone.size(), rules.size(), holes.size(),
            dones.size(), tape.length()}[what];
    }

    public int status() {
        return status;
    }
}
