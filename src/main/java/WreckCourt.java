import java.util.Arrays;

/**
 * Wreck commissioners: a night at sea made again minute by minute. The document (../shared/DOC.md)
 * says what each call answers; the words of its Terms are used here as they stand there.
 */
public final class WreckCourt {
    public static final int NONE = -1000000, BAD = -1000001, STATE = -1000002, FULL = -1000003;

    private static final int FOUND = -1000010, FAULTED = -1000100;
    private static final int NULL = 1, PLACE = 2, KIND = 3, SIZE = 4, STORE = 5;

    private static final int MINUTES = 240;
    private static final int SHEETS = 8, ITEMS = 120, BYTES = 0, SHORTS = 1, INTS = 2;

    private static final int SHIPS = 4, ORDERS = 60, DARKS = 10, TIDES = 60;
    private static final int COURSES = 16, FASTEST = 50, STRONGEST = 20, EDGE = 10000;
    private static final int IN_FOG = 0, IN_NIGHT = 1, UNSEEN = 9999;
    private static final int[] COURSE_X = {0, 38, 71, 92, 100, 92, 71, 38, 0, -38, -71, -92, -100, -92, -71, -38};
    private static final int[] COURSE_Y = {-100, -92, -71, -38, 0, 38, 71, 92, 100, 92, 71, 38, 0, -38, -71, -92};

    private static final int HOLDS = 6, DOORS = 5, DOORS_TOLD = 30, HOLES = 10;
    private static final int MOST_ROOM = 1000, MOST_PUMP = 100, MOST_BEARS = 6000, MOST_RATE = 100;
    private static final int SHUT_DOOR = 0, OPEN_DOOR = 1, OTHER_PUMP = 2, NO_HOLE = 3, NOTHING = -1;

    private static final int FACTS = 12, PERSONS = 3, MOST_DOUBT = 2000, LAST_DAY = 99;
    private static final int CLOCK_WRONG = 3, PACE = 50;
    private static final int FACT = 0, WORD = 1, SEEN = 2, PAPER = 3, GONE = 4;
    private static final int IS_OUT = 0, IS_OPEN = 1, IS_SURE = 2;

    private static final int TAPE = 400, RULES = 10, TESTS = 3, ACTS = 4, DEEDS = 40;
    private static final int SPEED = 0, NEAR = 1, FOG = 2, NIGHT = 3, WATER = 4, SUBJECTS = 5;
    private static final int BELOW = 0, ABOVE = 1, SAME = 2;
    private static final int MISPLACED = 1, TEST_TOO_MANY = 2, RULE_TOO_MANY = 3;
    private static final int TRACED = 16;

    private final Sheet[] sheets = new Sheet[SHEETS];
    private final Sea sea = new Sea();
    private final Vessel vessel = new Vessel();
    private final Bench bench = new Bench();
    private final Asks asks = new Asks();
    private final Spans deeds = new Spans(DEEDS);
    private final Reader reader = new Reader();
    private final int[] seen = new int[SUBJECTS];
    private final int[] blamed = new int[4];
    private Book book = new Book();
    private Book draft = new Book();
    private int finding = 0;

    public WreckCourt() {
        for (int i = 0; i < SHEETS; i++) {
            sheets[i] = new Sheet();
        }
    }

    // ---- sheets

    public int sheet(int sheet, int lane, int n) {
        if (!isSheet(sheet) || !within(lane, BYTES, INTS) || n > ITEMS) {
            return BAD;
        }
        if (n < 0) {
            return found(SIZE);
        }
        sheets[sheet].lay(lane, n);
        return well(n);
    }

    public int set(int sheet, int i, int v) {
        if (!isSheet(sheet)) {
            return BAD;
        }
        Sheet row = sheets[sheet];
        if (!row.there) {
            return found(NULL);
        }
        if (!row.has(i, 1)) {
            return found(PLACE);
        }
        return well(row.put(i, v));
    }

    public int copy(int a, int i, int b, int j, int n) {
        if (!isSheet(a) || !isSheet(b)) {
            return BAD;
        }
        Sheet from = sheets[a];
        Sheet to = sheets[b];
        if (!from.there || !to.there) {
            return found(NULL);
        }
        if (from.lane != to.lane) {
            return found(STORE);
        }
        if (!from.has(i, n) || !to.has(j, n)) {
            return found(PLACE);
        }
        System.arraycopy(from.items, i, to.items, j, n);
        return well(n);
    }

    public int drop(int sheet) {
        if (!isSheet(sheet)) {
            return BAD;
        }
        Sheet row = sheets[sheet];
        if (!row.there) {
            return found(NULL);
        }
        row.there = false;
        return well(row.size);
    }

    // ---- ships

    public int ship(int x, int y) {
        if (!isPlace(x, y)) {
            return BAD;
        }
        if (sea.ships == SHIPS) {
            return FULL;
        }
        return sea.launch(x, y);
    }

    public int order(int ship, int minute, int course, int speed) {
        if (!isShip(ship) || !isMinute(minute) || !within(course, 0, COURSES - 1) || !within(speed, 0, FASTEST)) {
            return BAD;
        }
        if (sea.orders.isFull()) {
            return FULL;
        }
        return sea.command(ship, minute, course, speed);
    }

    public int tide(int minute, int sheet, int i, int n) {
        if (!isMinute(minute) || !within(n, 1, TIDES) || minute + n > MINUTES || !isSheet(sheet)) {
            return BAD;
        }
        Sheet row = sheets[sheet];
        if (!row.there) {
            return found(NULL);
        }
        if (!row.has(i, 2 * n)) {
            return found(PLACE);
        }
        if (!row.isWithin(i, 2 * n, STRONGEST)) {
            return BAD;
        }
        sea.flow(minute, row.items, i, n);
        return well(n);
    }

    public int dark(int what, int from, int to) {
        if (!within(what, IN_FOG, IN_NIGHT) || !isSpan(from, to)) {
            return BAD;
        }
        if (sea.darks.isFull()) {
            return FULL;
        }
        return sea.darks.add(what, from, to);
    }

    public int where(int ship, int minute, int what) {
        int last = what == 0 || what == 1 ? MINUTES : MINUTES - 1;
        if (!isShip(ship) || !within(minute, 0, last)) {
            return BAD;
        }
        switch (what) {
            case 0: return sea.xOf(ship, minute);
            case 1: return sea.yOf(ship, minute);
            case 2: return sea.courseOf(ship, minute);
            case 3: return sea.speedOf(ship, minute);
            case 4: return sea.nearOf(ship, minute);
            default: return BAD;
        }
    }

    public int nearest(int a, int b, int what) {
        if (!isShip(a) || !isShip(b) || a == b || !within(what, 0, 1)) {
            return BAD;
        }
        int minute = sea.closest(a, b);
        return what == 0 ? minute : root(sea.apart(a, b, minute));
    }

    // ---- the hull

    public int hull(int what, int v) {
        switch (what) {
            case 6: return within(v, 0, MOST_PUMP) ? vessel.changePump(v) : BAD;
            case 7: return within(v, 1, MOST_BEARS) ? vessel.changeBears(v) : BAD;
            default: return isHold(what) && within(v, 1, MOST_ROOM) ? vessel.changeRoom(what, v) : BAD;
        }
    }

    public int door(int door, int minute, int open) {
        if (!isDoor(door) || !isMinute(minute) || !within(open, 0, 1)) {
            return BAD;
        }
        if (vessel.doors.isFull()) {
            return FULL;
        }
        return vessel.turnDoor(door, minute, open);
    }

    public int hole(int hold, int minute, int rate) {
        if (!isHold(hold) || !isMinute(minute) || !within(rate, 1, MOST_RATE)) {
            return BAD;
        }
        if (vessel.holes == HOLES) {
            return FULL;
        }
        return vessel.tear(hold, minute, rate);
    }

    public int water(int hold, int minute) {
        if ((hold != NONE && !isHold(hold)) || !within(minute, 0, MINUTES)) {
            return BAD;
        }
        return hold == NONE ? vessel.allWater(minute) : vessel.waterIn(hold, minute);
    }

    public int sinks() {
        return vessel.sinking();
    }

    public int other(int thing, int v) {
        return isOther(thing, v) ? vessel.play(thing, v) : BAD;
    }

    // ---- what was told

    public int fact(int sort, int ship, int minute, int x, int y, int doubt, int person, int day) {
        if (!within(sort, FACT, PAPER) || !within(ship, 0, SHIPS - 1) || !isMinute(minute) || !isPlace(x, y)) {
            return BAD;
        }
        if (!within(doubt, 0, MOST_DOUBT) || !within(person, 0, PERSONS - 1) || !isDay(day)) {
            return BAD;
        }
        if (bench.size == FACTS) {
            return FULL;
        }
        Fact told = new Fact(sort, person, day);
        told.tellsOf(ship, minute);
        told.liesAt(x, y, doubt);
        return bench.hear(told);
    }

    public int withdraw(int fact, int day) {
        if (!isFact(fact) || !isDay(day) || day < bench.facts[fact].told) {
            return BAD;
        }
        Fact told = bench.facts[fact];
        if (!told.isWord() || told.isGone()) {
            return STATE;
        }
        told.gone = day;
        return 1;
    }

    public int quarrel(int a, int b, int c0, int c1, int c2) {
        if (!isFact(a) || !isFact(b) || a == b || !isClock(c0) || !isClock(c1) || !isClock(c2)) {
            return BAD;
        }
        bench.wind(c0, c1, c2);
        return bench.isQuarrel(a, b) ? 1 : 0;
    }

    public int court(int day, int what) {
        if (!isDay(day) || !within(what, 0, 7)) {
            return BAD;
        }
        int heard = bench.heardOn(day);
        bench.judge(heard);
        switch (what) {
            case 0: return bench.most;
            case 1: return bench.rivals;
            case 2: return Integer.bitCount(heard);
            case 3: return bench.least;
            case 4: return bench.howMany(IS_SURE);
            case 5: return bench.howMany(IS_OPEN);
            case 6: return bench.look();
            default: return bench.look() == NONE ? NONE : bench.leftBy(bench.look());
        }
    }

    public int sure(int fact, int day) {
        if (!isFact(fact) || !isDay(day)) {
            return BAD;
        }
        if (!bench.facts[fact].isHeard(day)) {
            return NONE;
        }
        bench.judge(bench.heardOn(day));
        return bench.sureness(fact);
    }

    // ---- rules

    public int feed(long w, int n) {
        if (!within(n, 1, 8)) {
            return BAD;
        }
        if (reader.length + n > TAPE) {
            return FULL;
        }
        return reader.append(w, n);
    }

    public int rules() {
        int answer = reader.readTape(draft);
        if (answer >= 0) {
            Book old = book;
            book = draft;
            draft = old;
        }
        return answer;
    }

    public int fault() {
        return reader.latest;
    }

    public int done(int ship, int act, int from, int to) {
        if (!isShip(ship) || !isAct(act) || !isSpan(from, to)) {
            return BAD;
        }
        if (deeds.isFull()) {
            return FULL;
        }
        return deeds.add(deed(ship, act), from, to);
    }

    public int owes(int ship, int minute, int act) {
        if (!isShip(ship) || !isMinute(minute) || !isAct(act)) {
            return BAD;
        }
        lookOut(ship, minute);
        return book.firstOwed(act, seen);
    }

    public int blame(int ship, int what) {
        if (!isShip(ship) || !within(what, 0, 3)) {
            return BAD;
        }
        reckon(ship);
        return blamed[what];
    }

    // ---- asked

    public int kind(int fact) {
        return isFact(fact) ? bench.facts[fact].kindTold() : BAD;
    }

    public int as(int fact, int kind) {
        if (!isFact(fact) || !within(kind, FACT, GONE)) {
            return BAD;
        }
        Fact told = bench.facts[fact];
        return told.isOf(kind) ? well(told.minute) : found(KIND);
    }

    public int ask(int fact, int what) {
        if (!isFact(fact) || !within(what, 0, 1)) {
            return BAD;
        }
        asks.traced = 0;
        Fact told = bench.facts[fact];
        return what == 0 ? asks.sizeOf(told) : asks.markOf(told);
    }

    public int trace(int i) {
        return within(i, 0, asks.traced - 1) ? asks.bodies[i] : NONE;
    }

    public int count(int what) {
        switch (what) {
            case 0: return sheetsThere();
            case 1: return sea.ships;
            case 2: return sea.orders.size;
            case 3: return bench.size;
            case 4: return bench.goneOnes();
            case 5: return book.size;
            case 6: return vessel.holes;
            case 7: return deeds.size;
            case 8: return reader.length;
            default: return BAD;
        }
    }

    public int status() {
        return finding;
    }

    // ---- what the calls share

    private static boolean within(int v, int least, int most) {
        return v >= least && v <= most;
    }

    private static boolean isSheet(int v) {
        return within(v, 0, SHEETS - 1);
    }

    private static boolean isMinute(int v) {
        return within(v, 0, MINUTES - 1);
    }

    private static boolean isSpan(int from, int to) {
        return isMinute(from) && to <= MINUTES && to > from;
    }

    private static boolean isPlace(int x, int y) {
        return within(x, -EDGE, EDGE) && within(y, -EDGE, EDGE);
    }

    private static boolean isHold(int v) {
        return within(v, 0, HOLDS - 1);
    }

    private static boolean isDoor(int v) {
        return within(v, 0, DOORS - 1);
    }

    private static boolean isDay(int v) {
        return within(v, 0, LAST_DAY);
    }

    private static boolean isClock(int v) {
        return within(v, -CLOCK_WRONG, CLOCK_WRONG);
    }

    private static boolean isAct(int v) {
        return within(v, 0, ACTS - 1);
    }

    private boolean isShip(int v) {
        return within(v, 0, sea.ships - 1);
    }

    private boolean isFact(int v) {
        return within(v, 0, bench.size - 1);
    }

    private boolean isOther(int thing, int v) {
        switch (thing) {
            case SHUT_DOOR: return isDoor(v);
            case OPEN_DOOR: return isDoor(v);
            case OTHER_PUMP: return within(v, 0, MOST_PUMP);
            case NO_HOLE: return within(v, 0, vessel.holes - 1);
            default: return false;
        }
    }

    private int well(int answer) {
        finding = 0;
        return answer;
    }

    private int found(int number) {
        finding = number;
        return FOUND - number;
    }

    private int sheetsThere() {
        int there = 0;
        for (int i = 0; i < SHEETS; i++) {
            if (sheets[i].there) {
                there++;
            }
        }
        return there;
    }

    private static int deed(int ship, int act) {
        return ship * ACTS + act;
    }

    private void lookOut(int ship, int minute) {
        seen[SPEED] = sea.speedOf(ship, minute);
        seen[NEAR] = sea.nearOf(ship, minute);
        seen[FOG] = sea.darks.holdsIn(IN_FOG, minute) ? 1 : 0;
        seen[NIGHT] = sea.darks.holdsIn(IN_NIGHT, minute) ? 1 : 0;
        seen[WATER] = ship == 0 ? vessel.allWater(minute) : 0;
    }

    /** Leaves in blamed how much a ship left undone, and the minute, the act and the rule of the first. */
    private void reckon(int ship) {
        Arrays.fill(blamed, NONE);
        blamed[0] = 0;
        for (int minute = 0; minute < MINUTES && book.size > 0; minute++) {
            lookOut(ship, minute);
            for (int act = 0; act < ACTS; act++) {
                int rule = book.firstOwed(act, seen);
                if (rule != NONE && !deeds.holdsIn(deed(ship, act), minute)) {
                    lay(minute, act, rule);
                }
            }
        }
    }

    private void lay(int minute, int act, int rule) {
        if (blamed[0] == 0) {
            blamed[1] = minute;
            blamed[2] = act;
            blamed[3] = rule;
        }
        blamed[0]++;
    }

    /** The greatest whole number of which the square is no more than v, for v below 2 to the power of 34. */
    private static int root(long v) {
        int whole = 0;
        for (int bit = 1 << 16; bit > 0; bit >>= 1) {
            long tried = whole + bit;
            if (tried * tried <= v) {
                whole += bit;
            }
        }
        return whole;
    }

    private static long squares(long x, long y) {
        return x * x + y * y;
    }

    /** A SHEET keeps its row when it is missing, so that laying it anew makes no object. */
    private static final class Sheet {
        final int[] items = new int[ITEMS];
        boolean there = false;
        int lane = BYTES;
        int size = 0;

        void lay(int newLane, int n) {
            there = true;
            lane = newLane;
            size = n;
            Arrays.fill(items, 0);
        }

        boolean has(int i, int n) {
            return i >= 0 && n >= 0 && n <= size - i;
        }

        boolean isWithin(int i, int n, int most) {
            boolean well = true;
            for (int k = i; k < i + n; k++) {
                well = well && within(items[k], -most, most);
            }
            return well;
        }

        int put(int i, int v) {
            int kept = v;
            if (lane == BYTES) {
                kept = (byte) v;
            } else if (lane == SHORTS) {
                kept = (short) v;
            }
            items[i] = kept;
            return kept;
        }
    }

    /** What holds from a minute on, kept by minute and within a minute as told, so that one pass plays it all. */
    private static final class Told {
        private final int[] whose;
        private final int[] from;
        private final int[] value;
        int size = 0;

        Told(int most) {
            whose = new int[most];
            from = new int[most];
            value = new int[most];
        }

        boolean isFull() {
            return size == from.length;
        }

        int tell(int newWhose, int minute, int newValue) {
            int at = size;
            while (at > 0 && from[at - 1] > minute) {
                whose[at] = whose[at - 1];
                from[at] = from[at - 1];
                value[at] = value[at - 1];
                at--;
            }
            whose[at] = newWhose;
            from[at] = minute;
            value[at] = newValue;
            size++;
            return size;
        }

        /** Puts into now what begins by this minute, from entry next on; answers the entry behind it. */
        int play(int minute, int next, int[] now) {
            int at = next;
            while (at < size && from[at] <= minute) {
                now[whose[at]] = value[at];
                at++;
            }
            return at;
        }
    }

    /** Something that holds from one minute to another one (not among them). */
    private static final class Spans {
        private final int[] sort;
        private final int[] from;
        private final int[] to;
        int size = 0;

        Spans(int most) {
            sort = new int[most];
            from = new int[most];
            to = new int[most];
        }

        boolean isFull() {
            return size == sort.length;
        }

        int add(int newSort, int newFrom, int newTo) {
            sort[size] = newSort;
            from[size] = newFrom;
            to[size] = newTo;
            size++;
            return size;
        }

        boolean holdsIn(int asked, int minute) {
            for (int i = 0; i < size; i++) {
                if (sort[i] == asked && from[i] <= minute && minute < to[i]) {
                    return true;
                }
            }
            return false;
        }
    }

    /** The ships' tracks, walked again only when something told has changed them. */
    private static final class Sea {
        private static final int SHIFT = 6, MASK = 63;

        final Told orders = new Told(ORDERS);
        final Spans darks = new Spans(DARKS);
        int ships = 0;
        private final int[][] x = new int[SHIPS][MINUTES + 1];
        private final int[][] y = new int[SHIPS][MINUTES + 1];
        private final int[][] held = new int[SHIPS][MINUTES];
        private final int[] tideX = new int[MINUTES];
        private final int[] tideY = new int[MINUTES];
        private final int[] now = new int[SHIPS];
        private boolean stale = false;

        int launch(int atX, int atY) {
            x[ships][0] = atX;
            y[ships][0] = atY;
            stale = true;
            ships++;
            return ships - 1;
        }

        int command(int who, int minute, int course, int speed) {
            stale = true;
            return orders.tell(who, minute, (course << SHIFT) | speed);
        }

        void flow(int minute, int[] items, int i, int n) {
            for (int k = 0; k < n; k++) {
                tideX[minute + k] = items[i + 2 * k];
                tideY[minute + k] = items[i + 2 * k + 1];
            }
            stale = true;
        }

        int xOf(int who, int minute) {
            walk();
            return x[who][minute];
        }

        int yOf(int who, int minute) {
            walk();
            return y[who][minute];
        }

        int courseOf(int who, int minute) {
            walk();
            return held[who][minute] >> SHIFT;
        }

        int speedOf(int who, int minute) {
            walk();
            return held[who][minute] & MASK;
        }

        long apart(int a, int b, int minute) {
            walk();
            return squares(x[a][minute] - x[b][minute], y[a][minute] - y[b][minute]);
        }

        int nearOf(int who, int minute) {
            // FAR is cut, so a ship is in sight while the square is below that of one more than SIGHT
            long beyond = sightIn(minute) + 1;
            long least = beyond * beyond;
            boolean any = false;
            for (int i = 0; i < ships; i++) {
                if (i != who && apart(who, i, minute) < least) {
                    least = apart(who, i, minute);
                    any = true;
                }
            }
            return any ? root(least) : UNSEEN;
        }

        /** The first minute at which two ships are least FAR; squares that are cut to one FAR count the same. */
        int closest(int a, int b) {
            int first = 0;
            long far = root(apart(a, b, 0));
            for (int minute = 1; minute <= MINUTES; minute++) {
                if (apart(a, b, minute) < far * far) {
                    far = root(apart(a, b, minute));
                    first = minute;
                }
            }
            return first;
        }

        private int sightIn(int minute) {
            if (darks.holdsIn(IN_FOG, minute)) {
                return 100;
            }
            return darks.holdsIn(IN_NIGHT, minute) ? 500 : 1000;
        }

        private void walk() {
            if (!stale) {
                return;
            }
            Arrays.fill(now, 0);
            int next = 0;
            for (int minute = 0; minute < MINUTES; minute++) {
                next = orders.play(minute, next, now);
                for (int i = 0; i < ships; i++) {
                    takeStep(i, minute);
                }
            }
            stale = false;
        }

        private void takeStep(int who, int minute) {
            int course = now[who] >> SHIFT;
            int speed = now[who] & MASK;
            held[who][minute] = now[who];
            x[who][minute + 1] = x[who][minute] + COURSE_X[course] * speed / 100 + tideX[minute];
            y[who][minute + 1] = y[who][minute] + COURSE_Y[course] * speed / 100 + tideY[minute];
        }
    }

    /** THE HULL; the night as it was is kept minute by minute until something told has changed it. */
    private static final class Vessel {
        final Told doors = new Told(DOORS_TOLD);
        int holes = 0;
        private final int[] room = new int[HOLDS];
        private final int[] holeIn = new int[HOLES];
        private final int[] holeFrom = new int[HOLES];
        private final int[] holeRate = new int[HOLES];
        private final int[] open = new int[DOORS];
        private final int[] level = new int[HOLDS];
        private final int[][] kept = new int[HOLDS][MINUTES + 1];
        private int pump = 0;
        private int bears = 300;
        private int sunk = NONE;
        private boolean stale = false;

        Vessel() {
            Arrays.fill(room, 100);
        }

        int changeRoom(int hold, int v) {
            int old = room[hold];
            room[hold] = v;
            stale = true;
            return old;
        }

        int changePump(int v) {
            int old = pump;
            pump = v;
            stale = true;
            return old;
        }

        int changeBears(int v) {
            int old = bears;
            bears = v;
            stale = true;
            return old;
        }

        int turnDoor(int which, int minute, int isOpen) {
            stale = true;
            return doors.tell(which, minute, isOpen);
        }

        int tear(int hold, int minute, int rate) {
            holeIn[holes] = hold;
            holeFrom[holes] = minute;
            holeRate[holes] = rate;
            stale = true;
            holes++;
            return holes;
        }

        int waterIn(int hold, int minute) {
            fill();
            return kept[hold][minute];
        }

        int allWater(int minute) {
            fill();
            int all = 0;
            for (int hold = 0; hold < HOLDS; hold++) {
                all += kept[hold][minute];
            }
            return all;
        }

        int sinking() {
            fill();
            return sunk;
        }

        /** When she sinks with one thing other; with nothing other the water of each minute is kept, too. */
        int play(int thing, int v) {
            Arrays.fill(level, 0);
            Arrays.fill(open, 1);
            int next = 0;
            int when = NONE;
            for (int minute = 0; minute < MINUTES && (thing == NOTHING || when == NONE); minute++) {
                next = doors.play(minute, next, open);
                if (thing == SHUT_DOOR || thing == OPEN_DOOR) {
                    open[v] = thing;
                }
                letIn(minute, thing == NO_HOLE ? v : NONE);
                levelOut();
                pumpOut(thing == OTHER_PUMP ? v : pump);
                if (thing == NOTHING) {
                    keep(minute + 1);
                }
                if (when == NONE && held() >= bears) {
                    when = minute + 1;
                }
            }
            return when;
        }

        private void fill() {
            if (stale) {
                sunk = play(NOTHING, 0);
                stale = false;
            }
        }

        private void letIn(int minute, int without) {
            for (int i = 0; i < holes; i++) {
                if (i != without && holeFrom[i] <= minute) {
                    int hold = holeIn[i];
                    level[hold] += Math.min(holeRate[i], room[hold] - level[hold]);
                }
            }
        }

        private void levelOut() {
            for (int i = 0; i < DOORS; i++) {
                if (open[i] == 1) {
                    boolean onward = level[i] > level[i + 1];
                    int from = onward ? i : i + 1;
                    int to = onward ? i + 1 : i;
                    int over = Math.min((level[from] - level[to]) / 2, room[to] - level[to]);
                    level[from] -= over;
                    level[to] += over;
                }
            }
        }

        private void pumpOut(int most) {
            int fullest = 0;
            for (int hold = 1; hold < HOLDS; hold++) {
                if (level[hold] > level[fullest]) {
                    fullest = hold;
                }
            }
            level[fullest] -= Math.min(most, level[fullest]);
        }

        private void keep(int minute) {
            for (int hold = 0; hold < HOLDS; hold++) {
                kept[hold][minute] = level[hold];
            }
        }

        private int held() {
            int all = 0;
            for (int hold = 0; hold < HOLDS; hold++) {
                all += level[hold];
            }
            return all;
        }
    }

    private static final class Fact {
        final int sort;
        final int person;
        final int told;
        int minute = 0;
        int about = 0;
        int x = 0;
        int y = 0;
        int doubt = 0;
        int gone = NONE;

        Fact(int newSort, int newPerson, int day) {
            sort = newSort;
            person = newPerson;
            told = day;
        }

        void tellsOf(int whichShip, int when) {
            about = whichShip;
            minute = when;
        }

        void liesAt(int atX, int atY, int newDoubt) {
            x = atX;
            y = atY;
            doubt = newDoubt;
        }

        boolean isWord() {
            return sort == WORD || sort == SEEN;
        }

        boolean isGone() {
            return gone != NONE;
        }

        boolean isHeard(int day) {
            return told <= day && (!isGone() || day < gone);
        }

        /** The sorts are numbered as the kinds that fit them; only GONE is more than a sort. */
        int kindTold() {
            return isGone() ? GONE : sort;
        }

        boolean isOf(int asked) {
            int own = kindTold();
            return asked == FACT || asked == own || (asked == WORD && (own == SEEN || own == GONE));
        }
    }

    /** The FACTS and their FITS. A FACT never changes but by being withdrawn, so a set of heard ones is judged once. */
    private static final class Bench {
        final Fact[] facts = new Fact[FACTS];
        int size = 0;
        int most = 0;
        int rivals = 1;
        int least = 0;
        private int judged = 0;
        private final int[] having = new int[FACTS];
        private final int[] clocks = new int[PERSONS];
        private final int[] wrongBy = new int[PERSONS];
        private final int[] beyond = new int[FACTS * FACTS];
        private final int[] quarrels = new int[FACTS];
        private final int[] fits = new int[(1 << FACTS) / 32];

        int hear(Fact fact) {
            facts[size] = fact;
            for (int i = 0; i < size; i++) {
                int far = beyondDoubt(facts[i], fact);
                beyond[i * FACTS + size] = far;
                beyond[size * FACTS + i] = far;
            }
            size++;
            return size - 1;
        }

        int goneOnes() {
            int all = 0;
            for (int i = 0; i < size; i++) {
                if (facts[i].isGone()) {
                    all++;
                }
            }
            return all;
        }

        int heardOn(int day) {
            int set = 0;
            for (int i = 0; i < size; i++) {
                if (facts[i].isHeard(day)) {
                    set |= 1 << i;
                }
            }
            return set;
        }

        void wind(int c0, int c1, int c2) {
            clocks[0] = c0;
            clocks[1] = c1;
            clocks[2] = c2;
        }

        boolean isQuarrel(int a, int b) {
            return beyond[a * FACTS + b] > PACE * Math.abs(byClock(facts[a]) - byClock(facts[b]));
        }

        void judge(int heard) {
            if (heard == judged) {
                return;
            }
            judged = heard;
            most = 0;
            Arrays.fill(fits, 0);
            findWrongClocks();
            for (int c0 = -wrongBy[0]; c0 <= wrongBy[0]; c0++) {
                for (int c1 = -wrongBy[1]; c1 <= wrongBy[1]; c1++) {
                    for (int c2 = -wrongBy[2]; c2 <= wrongBy[2]; c2++) {
                        wind(c0, c1, c2);
                        findQuarrels();
                        gather(heard, 0, 0);
                    }
                }
            }
            tally();
        }

        int sureness(int fact) {
            if (having[fact] == rivals) {
                return IS_SURE;
            }
            return having[fact] > 0 ? IS_OPEN : IS_OUT;
        }

        int howMany(int how) {
            int all = 0;
            for (int i = 0; i < size; i++) {
                if (sureness(i) == how) {
                    all++;
                }
            }
            return all;
        }

        int look() {
            int best = NONE;
            for (int i = 0; i < size; i++) {
                if (sureness(i) == IS_OPEN && (best == NONE || leftBy(i) < leftBy(best))) {
                    best = i;
                }
            }
            return best;
        }

        int leftBy(int fact) {
            return Math.max(having[fact], rivals - having[fact]);
        }

        /** How much farther apart two are than both doubts; 0 for two ships, that never quarrel. */
        private static int beyondDoubt(Fact a, Fact b) {
            return a.about == b.about ? root(squares(a.x - b.x, a.y - b.y)) - a.doubt - b.doubt : 0;
        }

        private int byClock(Fact fact) {
            return fact.isWord() ? fact.minute + clocks[fact.person] : fact.minute;
        }

        private boolean isJudged(int fact) {
            return (judged >> fact & 1) == 1;
        }

        /** A clock by which nothing was heard moves nothing: one place of it stands for all. */
        private void findWrongClocks() {
            Arrays.fill(wrongBy, 0);
            for (int i = 0; i < size; i++) {
                if (isJudged(i) && facts[i].isWord()) {
                    wrongBy[facts[i].person] = CLOCK_WRONG;
                }
            }
        }

        /** Of each fact the later ones alone, as gather takes the first of what is left. */
        private void findQuarrels() {
            Arrays.fill(quarrels, 0);
            for (int a = 0; a < size; a++) {
                for (int b = a + 1; b < size && isJudged(a); b++) {
                    if (isJudged(b) && isQuarrel(a, b)) {
                        quarrels[a] |= 1 << b;
                    }
                }
            }
        }

        /** Marks all sets of chosen and some of rest that fit and may be GREATEST; each level takes one of rest. */
        private void gather(int rest, int chosen, int depth) {
            if (depth > FACTS || Integer.bitCount(rest) + Integer.bitCount(chosen) < most) {
                return;
            }
            if (rest == 0) {
                most = Integer.bitCount(chosen);
                fits[chosen >> 5] |= 1 << (chosen & 31);
                return;
            }
            int first = Integer.numberOfTrailingZeros(rest);
            int others = rest & ~(1 << first);
            int against = others & quarrels[first];
            gather(others & ~against, chosen | 1 << first, depth + 1);
            if (against != 0) {
                gather(others, chosen, depth + 1);
            }
        }

        private void tally() {
            rivals = 0;
            least = 0;
            Arrays.fill(having, 0);
            for (int set = 0; set < 1 << FACTS; set++) {
                if ((fits[set >> 5] >> (set & 31) & 1) == 1 && Integer.bitCount(set) == most) {
                    least = rivals == 0 ? set : least;
                    rivals++;
                    tallyFacts(set);
                }
            }
        }

        private void tallyFacts(int set) {
            for (int i = 0; i < FACTS; i++) {
                having[i] += set >> i & 1;
            }
        }
    }

    /** ASKS. No fact is both GONE and a PAPER, so the asks within others name the body that begins for the kind. */
    private static final class Asks {
        final int[] bodies = new int[TRACED];
        int traced = 0;

        int sizeOf(Fact fact) {
            switch (fact.kindTold()) {
                case WORD: return wordSize(fact);
                case SEEN: return seenSize(fact);
                case PAPER: return paperSize(fact);
                case GONE: return goneSize(fact);
                default: return lentSize(fact);
            }
        }

        int markOf(Fact fact) {
            switch (fact.kindTold()) {
                case WORD: return wordMark(fact);
                case SEEN: return wordMark(fact);
                case PAPER: return paperMark(fact);
                case GONE: return goneMark(fact);
                default: return lentMark(fact);
            }
        }

        private void begin(int body) {
            if (traced < TRACED) {
                bodies[traced] = body;
                traced++;
            }
        }

        private int lentSize(Fact fact) {
            begin(10);
            return fact.doubt;
        }

        private int wordSize(Fact fact) {
            begin(11);
            return lentSize(fact) + fact.minute;
        }

        private int seenSize(Fact fact) {
            begin(12);
            return wordSize(fact) * 2;
        }

        private int goneSize(Fact fact) {
            begin(13);
            int size = wordSize(fact);
            return size - goneMark(fact);
        }

        private int paperSize(Fact fact) {
            begin(14);
            return lentSize(fact) / 2;
        }

        private int lentMark(Fact fact) {
            begin(20);
            return fact.about;
        }

        private int wordMark(Fact fact) {
            begin(21);
            return lentMark(fact) + fact.person;
        }

        private int goneMark(Fact fact) {
            begin(22);
            return wordMark(fact) + 100;
        }

        private int paperMark(Fact fact) {
            begin(23);
            int mark = lentMark(fact);
            return mark + paperSize(fact);
        }
    }

    /** RULES as they were read: of each its act and up to three tests. */
    private static final class Book {
        int size = 0;
        private final int[] act = new int[RULES];
        private final int[] tests = new int[RULES];
        private final int[] subject = new int[RULES * TESTS];
        private final int[] sign = new int[RULES * TESTS];
        private final int[] number = new int[RULES * TESTS];

        /** A rule that begins is counted when its end has been read. */
        void begin() {
            tests[size] = 0;
        }

        void addTest(int newSubject, int newSign, int newNumber) {
            int at = size * TESTS + tests[size];
            subject[at] = newSubject;
            sign[at] = newSign;
            number[at] = newNumber;
            tests[size]++;
        }

        void end(int newAct) {
            act[size] = newAct;
            size++;
        }

        int firstOwed(int asked, int[] values) {
            for (int rule = 0; rule < size; rule++) {
                if (act[rule] == asked && allHold(rule, values)) {
                    return rule;
                }
            }
            return NONE;
        }

        private boolean allHold(int rule, int[] values) {
            boolean all = true;
            for (int i = 0; i < tests[rule]; i++) {
                int at = rule * TESTS + i;
                all = all && isSo(values[subject[at]], sign[at], number[at]);
            }
            return all;
        }

        private static boolean isSo(int value, int sign, int number) {
            if (sign == BELOW) {
                return value < number;
            }
            return sign == ABOVE ? value > number : value == number;
        }
    }

    /** THE TAPE, and the reading of it, token by token up to the first FAULT. */
    private static final class Reader {
        private static final int END = 0, NUMBER = 1, OTHER = 2, FIGURES = 4;

        int length = 0;
        int latest = 0;
        private final byte[] tape = new byte[TAPE];
        private int token = END;
        private int start = 0;
        private int behind = 0;

        int append(long w, int n) {
            for (int k = n - 1; k >= 0; k--) {
                tape[length] = (byte) (w >> (8 * k));
                length++;
            }
            return length;
        }

        /** How many rules came into the book, or FAULTED less the place of the first fault; the tape is empty then. */
        int readTape(Book book) {
            book.size = 0;
            behind = 0;
            next();
            boolean well = true;
            for (int rule = 0; rule <= RULES && well && token != END; rule++) {
                well = readRule(book);
            }
            length = 0;
            return well ? book.size : FAULTED - start;
        }

        private boolean readRule(Book book) {
            if (!reads("if")) {
                return faulty(MISPLACED);
            }
            if (book.size == RULES) {
                return faulty(RULE_TOO_MANY);
            }
            book.begin();
            next();
            boolean well = readTest(book);
            for (int tests = 1; tests <= TESTS && well && reads("and"); tests++) {
                if (tests == TESTS) {
                    return faulty(TEST_TOO_MANY);
                }
                next();
                well = readTest(book);
            }
            return well && readMust(book);
        }

        private boolean readTest(Book book) {
            int subject = subjectRead();
            if (subject == NONE) {
                return faulty(MISPLACED);
            }
            next();
            int sign = signRead();
            if (sign == NONE) {
                return faulty(MISPLACED);
            }
            next();
            if (token != NUMBER) {
                return faulty(MISPLACED);
            }
            book.addTest(subject, sign, numberRead());
            next();
            return true;
        }

        private boolean readMust(Book book) {
            if (!reads("must")) {
                return faulty(MISPLACED);
            }
            next();
            int act = actRead();
            if (act == NONE) {
                return faulty(MISPLACED);
            }
            next();
            if (!reads(";")) {
                return faulty(MISPLACED);
            }
            book.end(act);
            next();
            return true;
        }

        private boolean faulty(int number) {
            latest = number;
            return false;
        }

        private int subjectRead() {
            if (reads("speed")) {
                return SPEED;
            }
            if (reads("near")) {
                return NEAR;
            }
            if (reads("fog")) {
                return FOG;
            }
            if (reads("night")) {
                return NIGHT;
            }
            return reads("water") ? WATER : NONE;
        }

        private int signRead() {
            if (reads("<")) {
                return BELOW;
            }
            if (reads(">")) {
                return ABOVE;
            }
            return reads("=") ? SAME : NONE;
        }

        private int actRead() {
            if (reads("slow")) {
                return 0;
            }
            if (reads("sound")) {
                return 1;
            }
            if (reads("light")) {
                return 2;
            }
            return reads("turn") ? 3 : NONE;
        }

        private int numberRead() {
            int value = 0;
            for (int i = start; i < behind; i++) {
                value = value * 10 + (tape[i] - '0');
            }
            return value;
        }

        private boolean reads(String text) {
            if (behind - start != text.length()) {
                return false;
            }
            boolean same = true;
            for (int i = start; i < behind; i++) {
                same = same && tape[i] == text.charAt(i - start);
            }
            return same;
        }

        private void next() {
            start = behind;
            while (start < length && isGap(tape[start])) {
                start++;
            }
            behind = start;
            if (start == length) {
                token = END;
            } else if (isLetter(tape[start])) {
                takeLetters();
            } else if (isFigure(tape[start])) {
                takeFigures();
            } else {
                token = OTHER;
                behind++;
            }
        }

        /** A name that is too long needs no look: no word of a rule has so many letters. */
        private void takeLetters() {
            while (behind < length && isLetter(tape[behind])) {
                behind++;
            }
            token = OTHER;
        }

        private void takeFigures() {
            while (behind < length && isFigure(tape[behind])) {
                behind++;
            }
            token = behind - start <= FIGURES ? NUMBER : OTHER;
        }

        private static boolean isGap(int sign) {
            return sign == 32 || sign == 10;
        }

        private static boolean isLetter(int sign) {
            return sign >= 'a' && sign <= 'z';
        }

        private static boolean isFigure(int sign) {
            return sign >= '0' && sign <= '9';
        }
    }
}
