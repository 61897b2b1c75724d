/** Promises 6 to 11, sentence by sentence: what each says of edges and of refused calls. */
public final class ShipEdgesTest {
    private static final int BAD = WreckCourt.BAD, FULL = WreckCourt.FULL, NULL = Checks.NULL, PLACE = Checks.PLACE;
    private static final int MIN = Integer.MIN_VALUE, MAX = Integer.MAX_VALUE, UNSEEN = 9999;

    public static void main(String[] args) throws Exception {
        Sentences.run(ShipEdgesTest.class, 6, 11);
    }

    private static WreckCourt withShips(int... places) {
        WreckCourt x = new WreckCourt();
        for (int i = 0; i + 1 < places.length; i += 2) {
            x.ship(places[i], places[i + 1]);
        }
        return x;
    }

    // ---- the terms

    @Says(promise = 0, text = "All that is divided is cut towards 0.")
    static void stepsAreCutTowardsNone() {
        WreckCourt x = withShips(0, 0);
        // 38 and 92, and 71, by 100, once onward and once back
        int[][] rows = {{1, 1, 0, 0}, {9, 1, 0, 0}, {1, 2, 0, -1}, {9, 2, 0, 1}, {3, 50, 46, -19}, {11, 50, -46, 19},
            {14, 3, -2, -2}, {6, 3, 2, 2}, {15, 5, -1, -4}, {7, 5, 1, 4}};
        for (int[] row : rows) {
            x.order(0, 0, row[0], row[1]);
            Checks.due("x on course " + row[0] + " at " + row[1], x.where(0, 1, 0), row[2]);
            Checks.due("y on course " + row[0] + " at " + row[1], x.where(0, 1, 1), row[3]);
        }
    }

    @Says(promise = 0, text = "COURSES 0 .. 15, as x, y by 100: 0 0 -100, 1 38 -92, 2 71 -71, 3 92 -38, 4 100 0")
    static void eachCourseAtItsSpeeds() {
        int[] first = {0, 38, 71, 92, 100, 92, 71, 38};
        for (int course = 0; course < 16; course++) {
            WreckCourt x = withShips(0, 0);
            int byX = course < 8 ? first[course] : -first[course - 8];
            int byY = course < 4 ? -first[course + 4] : course < 12 ? first[course - 4] : -first[course - 12];
            for (int speed : new int[] {0, 1, 2, 3, 25, 31, 38, 49, 50}) {
                x.order(0, 0, course, speed);
                Checks.due("x of course " + course + " at " + speed, x.where(0, 1, 0), byX * speed / 100);
                Checks.due("y of course " + course + " at " + speed, x.where(0, 1, 1), byY * speed / 100);
            }
        }
    }

    @Says(promise = 0, text = "A STEP in a MINUTE: x is more by the COURSE's x times the speed, by 100, and by TIDE's x; y likewise.")
    static void tideIsNotDividedWithTheStep() {
        WreckCourt x = withShips(0, 0);
        x.sheet(0, 0, 2);
        x.set(0, 0, 1);
        x.set(0, 1, -1);
        x.tide(0, 0, 0, 1);
        x.order(0, 0, 10, 1);
        Checks.due("x: -71 by 100 is 0, and 1", x.where(0, 1, 0), 1);
        Checks.due("y: 71 by 100 is 0, less 1", x.where(0, 1, 1), -1);
    }

    @Says(promise = 0, text = "what holds at a MINUTE is the latest one from that MINUTE or ahead of it")
    static void orderHoldsFromItsMinute() {
        WreckCourt x = withShips(0, 0);
        x.order(0, 100, 4, 10);
        Checks.due("a course, asked at once", x.where(0, 239, 2), 4);
        x.order(0, 100, 0, 10);
        Checks.due("y, asked at once", x.where(0, 101, 1), -10);
        x.order(0, 100, 4, 10);
        x.order(0, 50, 12, 20);
        Checks.due("the minute ahead", x.where(0, 49, 3), 0);
        Checks.due("its minute", x.where(0, 50, 3), 20);
        Checks.due("up to the next one", x.where(0, 99, 3), 20);
        Checks.due("the next one, though told ahead", x.where(0, 100, 3), 10);
        Checks.due("to the end", x.where(0, 239, 3), 10);
        Checks.due("no step yet", x.where(0, 50, 0), 0);
        Checks.due("the first step", x.where(0, 51, 0), -20);
        Checks.due("the last of these steps", x.where(0, 100, 0), -1000);
        Checks.due("behind all", x.where(0, 240, 0), -1000 + 1400);
    }

    @Says(promise = 0, text = "(of one MINUTE the one told last)")
    static void lastToldOfOneMinuteHolds() {
        WreckCourt x = withShips(0, 0, 0, 0);
        x.order(0, 7, 4, 10);
        x.order(1, 7, 8, 30);
        x.order(0, 7, 12, 20);
        x.order(0, 6, 0, 40);
        Checks.due("told last", x.where(0, 7, 3), 20);
        Checks.due("the minute ahead", x.where(0, 6, 3), 40);
        Checks.due("the other ship has its own", x.where(1, 7, 3), 30);
        Checks.due("and none ahead", x.where(1, 6, 3), 0);
    }

    @Says(promise = 0, text = "without: speed 0, COURSE 0")
    static void withoutOrders() {
        WreckCourt x = withShips(5, -5, 7, 7);
        x.order(1, 0, 9, 50);
        for (int minute : new int[] {0, 239}) {
            Checks.due("course", x.where(0, minute, 2), 0);
            Checks.due("speed", x.where(0, minute, 3), 0);
        }
        Checks.due("x", x.where(0, 240, 0), 5);
        Checks.due("y", x.where(0, 240, 1), -5);
    }

    @Says(promise = 0, text = "(-20 to 20 each; 0 at first)")
    static void noTideAtFirst() {
        WreckCourt x = withShips(-10000, 10000);
        for (int minute = 0; minute <= 240; minute++) {
            Checks.due("x at " + minute, x.where(0, minute, 0), -10000);
            Checks.due("y at " + minute, x.where(0, minute, 1), 10000);
        }
    }

    @Says(promise = 0, text = "the greatest whole number of which the square is no more than (x's apart) squared and (y's apart) squared, added")
    static void farIsCut() {
        int[][] rows = {{0, 0, 0}, {1, 0, 1}, {1, 1, 1}, {2, 1, 2}, {2, 2, 2}, {3, 0, 3}, {3, 1, 3}, {3, 3, 4}, {3, 4, 5},
            {-3, -4, 5}, {5, 5, 7}, {20, 21, 29}, {20, 20, 28}, {999, 44, 999}, {999, 45, 1000}};
        for (int[] row : rows) {
            WreckCourt x = withShips(0, 0, row[0], row[1]);
            Checks.due("far " + row[0] + ", " + row[1], x.nearest(0, 1, 1), row[2]);
        }
    }

    @Says(promise = 0, text = "the greatest whole number of which the square is no more than (x's apart) squared and (y's apart) squared, added")
    static void farOfTheFarthest() {
        WreckCourt x = withShips(-10000, -10000, 10000, 10000);
        Checks.due("20000 and 20000 apart", x.nearest(0, 1, 1), 28284);
        // apart by 44000 at the end: the squares, added, are past an int's greatest
        x.order(0, 0, 14, 50);
        x.order(1, 0, 6, 50);
        Checks.due("least at first", x.nearest(0, 1, 0), 0);
        x.order(0, 1, 6, 50);
        x.order(1, 1, 14, 50);
        Checks.due("35 apart each once, then back", x.nearest(0, 1, 0), 240);
        Checks.due("at the end", x.nearest(0, 1, 1), farOf(20000 + 70 - 2 * 239 * 35));
        x.order(1, 1, 6, 50);
        x.order(0, 0, 6, 0);
        x.order(1, 0, 6, 0);
        x.order(0, 1, 14, 50);
        Checks.due("apart for ever", x.nearest(0, 1, 0), 0);
    }

    private static int farOf(int apart) {
        return (int) Math.sqrt(2.0 * apart * apart);
    }

    @Says(promise = 0, text = "MINUTES from one to another one (not among them)")
    static void darkFromOneToAnother() {
        WreckCourt x = withShips(0, 0, 300, 0, 700, 0);
        x.dark(0, 10, 11);
        x.dark(1, 20, 22);
        int[] minutes = {9, 10, 11, 19, 20, 21, 22};
        int[] near = {400, UNSEEN, 400, 400, 400, 400, 400};
        int[] first = {300, UNSEEN, 300, 300, 300, 300, 300};
        for (int i = 0; i < minutes.length; i++) {
            Checks.due("near of 2 in " + minutes[i], x.where(2, minutes[i], 4), near[i]);
            Checks.due("near of 0 in " + minutes[i], x.where(0, minutes[i], 4), first[i]);
        }
        WreckCourt far = withShips(0, 0, 501, 0);
        far.dark(1, 20, 22);
        int[] sees = {501, UNSEEN, UNSEEN, 501};
        for (int i = 0; i < sees.length; i++) {
            Checks.due("501 in " + (19 + i), far.where(0, 19 + i, 4), sees[i]);
        }
    }

    @Says(promise = 0, text = "SIGHT in a MINUTE: 100 in FOG, else 500 in NIGHT, else 1000.")
    static void sight() {
        int[] apart = {100, 101, 500, 501, 1000, 1001};
        int[] inFog = {100, UNSEEN, UNSEEN, UNSEEN, UNSEEN, UNSEEN};
        int[] inNight = {100, 101, 500, UNSEEN, UNSEEN, UNSEEN};
        int[] byDay = {100, 101, 500, 501, 1000, UNSEEN};
        for (int i = 0; i < apart.length; i++) {
            WreckCourt x = withShips(0, 0, 0, -apart[i]);
            x.dark(1, 1, 3);
            x.dark(0, 2, 4);
            Checks.due(apart[i] + " by day", x.where(0, 0, 4), byDay[i]);
            Checks.due(apart[i] + " in night", x.where(0, 1, 4), inNight[i]);
            Checks.due(apart[i] + " in fog and night", x.where(0, 2, 4), inFog[i]);
            Checks.due(apart[i] + " in fog", x.where(0, 3, 4), inFog[i]);
        }
    }

    @Says(promise = 0, text = "the least FAR to another SHIP that is no more than SIGHT; 9999: there is none")
    static void near() {
        Checks.due("alone", withShips(0, 0).where(0, 0, 4), UNSEEN);
        Checks.due("at one place", withShips(0, 0, 0, 0).where(1, 0, 4), 0);
        Checks.due("all beyond", withShips(0, 0, 1001, 0, 0, 1001).where(0, 0, 4), UNSEEN);
        Checks.due("the least of three", withShips(0, 0, 30, 0, 0, -20, 25, 0).where(0, 0, 4), 20);
        Checks.due("the last is the least", withShips(30, 0, 0, 20, 10, 0, 0, 0).where(3, 0, 4), 10);
        Checks.due("cut to what is seen still", withShips(0, 0, 1000, 44).where(0, 0, 4), 1000);
        Checks.due("and no more", withShips(0, 0, 1000, 45).where(0, 0, 4), UNSEEN);
    }

    @Says(promise = 0, text = "NEAR of a SHIP in a MINUTE")
    static void nearInEachMinute() {
        WreckCourt x = withShips(0, 0, 1100, 0, 0, 900);
        x.order(1, 0, 12, 50);
        x.order(2, 0, 8, 50);
        // from 0 ship 1 is 1100, 1050, 1000 .. away and ship 2 is 900, 950, 1000, 1050 ..
        int[] due = {900, 950, 1000, 950, 900};
        for (int minute = 0; minute < due.length; minute++) {
            Checks.due("in " + minute, x.where(0, minute, 4), due[minute]);
        }
        Checks.due("at one place", x.where(0, 22, 4), 0);
        Checks.due("in the last minute", x.where(0, 239, 4), UNSEEN);
    }

    // ---- ship

    @Says(promise = 6, text = "A SHIP: its number.")
    static void shipsFromTheFirstToTheLast() {
        WreckCourt x = new WreckCourt();
        int[] places = {-10000, 10000, 0, 9999};
        for (int i = 0; i < 4; i++) {
            Checks.due("number", x.ship(places[i], -places[i]), i);
            Checks.due("how many", x.count(1), i + 1);
        }
        for (int i = 0; i < 4; i++) {
            Checks.due("x at first", x.where(i, 0, 0), places[i]);
            Checks.due("y at first", x.where(i, 0, 1), -places[i]);
        }
    }

    @Says(promise = 6, text = "BAD")
    static void shipBeyondTheSea() {
        Night.SOME.refuses(BAD, x -> x.ship(10001, 0), x -> x.ship(-10001, 0), x -> x.ship(0, 10001), x -> x.ship(0, -10001),
            x -> x.ship(MIN, 0), x -> x.ship(0, MIN), x -> x.ship(MAX, 0), x -> x.ship(0, MAX));
        Night.SOME.takes(3, x -> x.ship(10000, 0), x -> x.ship(-10000, 0), x -> x.ship(0, 10000), x -> x.ship(0, -10000));
    }

    @Says(promise = 6, text = "FULL: 4.")
    static void shipsAreFull() {
        Night.FULL.refuses(FULL, x -> x.ship(0, 0), x -> x.ship(10000, -10000));
        Night.FULL.refuses(BAD, x -> x.ship(10001, 0), x -> x.ship(0, -10001));
    }

    // ---- order

    @Says(promise = 7, text = "An ORDER: how many there are.")
    static void ordersFromTheFirstToTheLast() {
        WreckCourt x = withShips(0, 0, 0, 0, 0, 0, 0, 0);
        for (int i = 1; i <= 60; i++) {
            Checks.due("order " + i, x.order(i % 4, 239 - i, i % 16, i % 51), i);
            Checks.due("how many", x.count(2), i);
        }
        for (int i = 1; i <= 60; i++) {
            Checks.due("speed of order " + i, x.where(i % 4, 239 - i, 3), i % 51);
            Checks.due("course of order " + i, x.where(i % 4, 239 - i, 2), i % 16);
        }
    }

    @Says(promise = 7, text = "BAD: SHIP")
    static void orderOfNoShip() {
        Night.SOME.refuses(BAD, x -> x.order(-1, 0, 0, 0), x -> x.order(3, 0, 0, 0), x -> x.order(MIN, 0, 0, 0), x -> x.order(MAX, 0, 0, 0));
        Night.NEW.refuses(BAD, x -> x.order(0, 0, 0, 0));
        Night.SOME.takes(5, x -> x.order(0, 0, 0, 0), x -> x.order(2, 0, 0, 0));
        Night.FULL.refuses(BAD, x -> x.order(4, 0, 0, 0));
    }

    @Says(promise = 7, text = "MINUTE")
    static void orderInNoMinute() {
        Night.SOME.refuses(BAD, x -> x.order(0, -1, 0, 0), x -> x.order(0, 240, 0, 0), x -> x.order(0, MIN, 0, 0), x -> x.order(0, MAX, 0, 0));
        Night.SOME.takes(5, x -> x.order(0, 0, 0, 0), x -> x.order(0, 239, 0, 0));
    }

    @Says(promise = 7, text = "COURSE")
    static void orderOfNoCourse() {
        Night.SOME.refuses(BAD, x -> x.order(0, 0, -1, 0), x -> x.order(0, 0, 16, 0), x -> x.order(0, 0, MIN, 0), x -> x.order(0, 0, MAX, 0));
        Night.SOME.takes(5, x -> x.order(0, 0, 0, 0), x -> x.order(0, 0, 15, 0));
    }

    @Says(promise = 7, text = "speed")
    static void orderOfNoSpeed() {
        Night.SOME.refuses(BAD, x -> x.order(0, 0, 0, -1), x -> x.order(0, 0, 0, 51), x -> x.order(0, 0, 0, MIN), x -> x.order(0, 0, 0, MAX));
        Night.SOME.takes(5, x -> x.order(0, 0, 0, 0), x -> x.order(0, 0, 0, 50));
        WreckCourt x = withShips(0, 0);
        x.order(0, 0, 8, 50);
        Checks.due("the greatest speed is kept", x.where(0, 239, 3), 50);
        Checks.due("and sailed", x.where(0, 240, 1), 12000);
    }

    @Says(promise = 7, text = "FULL: 60.")
    static void ordersAreFull() {
        Night.FULL.refuses(FULL, x -> x.order(0, 0, 0, 0), x -> x.order(3, 239, 15, 50));
        Night.FULL.refuses(BAD, x -> x.order(0, 240, 0, 0), x -> x.order(0, 0, 16, 0), x -> x.order(0, 0, 0, 51));
    }

    // ---- tide

    private static WreckCourt withTides(int... items) {
        WreckCourt x = withShips(0, 0);
        x.sheet(0, 2, items.length);
        for (int i = 0; i < items.length; i++) {
            x.set(0, i, items[i]);
        }
        return x;
    }

    @Says(promise = 8, text = "TIDE of n MINUTES (1 to 60) from one on, two ITEMS each of a SHEET from i on: n.")
    static void tideOfOneMinute() {
        WreckCourt x = withTides(9, 20, -20, 9);
        Checks.due("one", x.tide(5, 0, 1, 1), 1);
        int[] minutes = {0, 5, 6, 240};
        int[] wentX = {0, 0, 20, 20};
        for (int i = 0; i < minutes.length; i++) {
            Checks.due("x at " + minutes[i], x.where(0, minutes[i], 0), wentX[i]);
            Checks.due("y at " + minutes[i], x.where(0, minutes[i], 1), -wentX[i]);
        }
        Checks.due("the same anew", x.tide(5, 0, 1, 1), 1);
        Checks.due("is not added", x.where(0, 240, 0), 20);
        Checks.due("in its place", x.tide(5, 0, 2, 1), 1);
        Checks.due("another one", x.where(0, 240, 0), -20);
    }

    @Says(promise = 8, text = "TIDE of n MINUTES (1 to 60) from one on, two ITEMS each of a SHEET from i on: n.")
    static void tideOfMostMinutes() {
        WreckCourt x = withShips(0, 0);
        x.sheet(0, 0, 120);
        for (int i = 0; i < 60; i++) {
            x.set(0, 2 * i, i % 21);
            x.set(0, 2 * i + 1, -(i % 20));
        }
        Checks.due("sixty up to the last minute", x.tide(180, 0, 0, 60), 60);
        int sumX = 0;
        int sumY = 0;
        for (int i = 0; i <= 60; i++) {
            Checks.due("x at " + (180 + i), x.where(0, 180 + i, 0), sumX);
            Checks.due("y at " + (180 + i), x.where(0, 180 + i, 1), sumY);
            sumX += i % 21;
            sumY -= i % 20;
        }
        Checks.due("and from the first", x.tide(0, 0, 0, 60), 60);
    }

    @Says(promise = 8, text = "BAD: MINUTE")
    static void tideInNoMinute() {
        Night.SOME.refuses(BAD, x -> x.tide(-1, 0, 0, 1), x -> x.tide(240, 0, 0, 1), x -> x.tide(MIN, 0, 0, 1), x -> x.tide(MAX, 0, 0, 1),
            x -> x.tide(MAX, 0, 0, 60), x -> x.tide(240, 4, 0, 1), x -> x.tide(-1, 0, -1, 1));
        Night.SOME.takes(1, x -> x.tide(0, 0, 0, 1), x -> x.tide(239, 0, 0, 1));
    }

    @Says(promise = 8, text = "n (or beyond 239)")
    static void tideOfNoSuchLength() {
        Night.FULL.refuses(BAD, x -> x.tide(0, 0, 0, 0), x -> x.tide(0, 0, 0, 61), x -> x.tide(0, 0, 0, -1), x -> x.tide(0, 0, 0, MIN),
            x -> x.tide(0, 0, 0, MAX));
        Night.SOME.refuses(BAD, x -> x.tide(0, 4, 0, 0), x -> x.tide(0, 4, 0, 61), x -> x.tide(0, 0, -1, 61));
        Night.FULL.takes(60, x -> x.tide(0, 0, 0, 60));
    }

    @Says(promise = 8, text = "n (or beyond 239)")
    static void tideBeyondTheLastMinute() {
        Night.FULL.refuses(BAD, x -> x.tide(239, 0, 0, 2), x -> x.tide(181, 0, 0, 60), x -> x.tide(239, 0, 0, 60));
        Night.SOME.refuses(BAD, x -> x.tide(239, 4, 0, 2), x -> x.tide(239, 0, -1, 2));
        Night.FULL.takes(60, x -> x.tide(180, 0, 0, 60));
        Night.FULL.takes(2, x -> x.tide(238, 0, 0, 2));
    }

    @Says(promise = 8, text = "SHEET; NULL")
    static void tideOfNoSheet() {
        Night.SOME.refuses(BAD, x -> x.tide(0, -1, 0, 1), x -> x.tide(0, 8, 0, 1), x -> x.tide(0, MIN, 0, 1), x -> x.tide(0, MAX, 0, 1));
        Night.SOME.refuses(NULL, x -> x.tide(0, 4, 0, 1), x -> x.tide(0, 7, -1, 1), x -> x.tide(0, 4, MAX, 60));
        Night.FULL.takes(1, x -> x.tide(0, 0, 0, 1), x -> x.tide(0, 7, 0, 1));
    }

    @Says(promise = 8, text = "PLACE")
    static void tideFromNoPlace() {
        Night.SOME.refuses(PLACE, x -> x.tide(0, 0, -1, 1), x -> x.tide(0, 0, 3, 1), x -> x.tide(0, 0, 4, 1), x -> x.tide(0, 0, 1, 2),
            x -> x.tide(0, 0, 0, 3), x -> x.tide(0, 2, 0, 1), x -> x.tide(0, 3, 1, 60), x -> x.tide(0, 0, MIN, 1), x -> x.tide(0, 0, MAX, 1),
            x -> x.tide(0, 0, MAX, 60), x -> x.tide(0, 0, MAX - 1, 1));
        Night.SOME.takes(1, x -> x.tide(0, 0, 2, 1));
        Night.SOME.takes(2, x -> x.tide(0, 0, 0, 2));
    }

    @Says(promise = 8, text = "then BAD: an ITEM.")
    static void tideTooStrong() {
        // sheet 1 has a 21 at place 3, among 6
        Night.SOME.refuses(BAD, x -> x.tide(0, 1, 2, 1), x -> x.tide(0, 1, 3, 1), x -> x.tide(0, 1, 0, 2), x -> x.tide(0, 1, 0, 3));
        Night.SOME.takes(1, x -> x.tide(0, 1, 0, 1), x -> x.tide(0, 1, 1, 1), x -> x.tide(0, 1, 4, 1));
        Night.SOME.refuses(PLACE, x -> x.tide(0, 1, 3, 2));
        WreckCourt x = withTides(20, -20, 0, 0);
        for (int strong : new int[] {21, -21, MAX, MIN}) {
            x.set(0, 2, strong);
            Checks.due("x of " + strong, x.tide(0, 0, 0, 2), BAD);
            Checks.due("nothing of it came", x.where(0, 240, 0), 0);
            x.set(0, 2, 0);
            x.set(0, 3, strong);
            Checks.due("y of " + strong, x.tide(0, 0, 0, 2), BAD);
            x.set(0, 3, 0);
        }
        Checks.due("as strong as can be", x.tide(0, 0, 0, 2), 2);
        Checks.due("x", x.where(0, 240, 0), 20);
        Checks.due("y", x.where(0, 240, 1), -20);
    }

    // ---- dark

    @Says(promise = 9, text = "FOG (what = 0), NIGHT (1): how many there are of both.")
    static void darksFromTheFirstToTheLast() {
        WreckCourt x = new WreckCourt();
        for (int i = 1; i <= 10; i++) {
            Checks.due("dark " + i, x.dark(i / 6, 0, 240), i);
        }
    }

    @Says(promise = 9, text = "BAD: what")
    static void darkOfNoSort() {
        Night.SOME.refuses(BAD, x -> x.dark(-1, 0, 1), x -> x.dark(2, 0, 1), x -> x.dark(MIN, 0, 1), x -> x.dark(MAX, 0, 1));
        Night.SOME.takes(3, x -> x.dark(0, 0, 1), x -> x.dark(1, 0, 1));
    }

    @Says(promise = 9, text = "MINUTES (to 1 to 240, above from)")
    static void darkInNoMinutes() {
        Night.SOME.refuses(BAD, x -> x.dark(0, -1, 1), x -> x.dark(0, 240, 241), x -> x.dark(0, 240, 240), x -> x.dark(0, 0, 241),
            x -> x.dark(0, 0, 0), x -> x.dark(1, 5, 5), x -> x.dark(1, 6, 5), x -> x.dark(1, 239, 239), x -> x.dark(0, -1, 0), x -> x.dark(0, MIN, MAX),
            x -> x.dark(0, MAX, MIN), x -> x.dark(0, MIN, 1), x -> x.dark(0, 0, MAX), x -> x.dark(0, 0, MIN), x -> x.dark(0, 0, -1));
        Night.SOME.takes(3, x -> x.dark(0, 0, 1), x -> x.dark(0, 239, 240), x -> x.dark(1, 0, 240));
    }

    @Says(promise = 9, text = "FULL: 10.")
    static void darksAreFull() {
        Night.FULL.refuses(FULL, x -> x.dark(0, 0, 240), x -> x.dark(1, 0, 240));
        Night.FULL.refuses(BAD, x -> x.dark(2, 0, 240), x -> x.dark(0, 0, 241), x -> x.dark(0, 5, 5));
    }

    // ---- where

    @Says(promise = 10, text = "WHERE a SHIP is at a MINUTE (0 to 240): x (what = 0), y (1)")
    static void whereAtTheEnds() {
        WreckCourt x = withShips(100, -100);
        x.order(0, 0, 4, 7);
        x.order(0, 239, 8, 50);
        Checks.due("x at first", x.where(0, 0, 0), 100);
        Checks.due("y at first", x.where(0, 0, 1), -100);
        Checks.due("x at 1", x.where(0, 1, 0), 107);
        Checks.due("x at 239", x.where(0, 239, 0), 100 + 7 * 239);
        Checks.due("y at 239", x.where(0, 239, 1), -100);
        Checks.due("x at 240", x.where(0, 240, 0), 100 + 7 * 239);
        Checks.due("y at 240", x.where(0, 240, 1), -50);
        Checks.bad("beyond", x.where(0, 241, 0), x.where(0, 241, 1), x.where(0, -1, 0), x.where(0, -1, 1));
    }

    @Says(promise = 10, text = "in it (0 to 239): the COURSE (2), the speed (3), NEAR (4).")
    static void inTheFirstAndTheLastMinute() {
        WreckCourt x = withShips(0, 0, 0, 900);
        x.order(0, 239, 15, 50);
        int[] first = {0, 0, 900};
        int[] last = {15, 50, 900};
        for (int what = 2; what <= 4; what++) {
            Checks.due("first, " + what, x.where(0, 0, what), first[what - 2]);
            Checks.due("last, " + what, x.where(0, 239, what), last[what - 2]);
            Checks.bad("beyond, " + what, x.where(0, 240, what), x.where(0, -1, what), x.where(0, MAX, what), x.where(0, MIN, what));
        }
    }

    @Says(promise = 10, text = "BAD.")
    static void whereOfNothing() {
        Night.SOME.refuses(BAD, x -> x.where(-1, 0, 0), x -> x.where(3, 0, 0), x -> x.where(3, 0, 4), x -> x.where(MIN, 0, 2), x -> x.where(MAX, 0, 3),
            x -> x.where(0, 0, -1), x -> x.where(0, 0, 5), x -> x.where(0, 240, 5), x -> x.where(0, 0, MIN), x -> x.where(0, 0, MAX),
            x -> x.where(0, MIN, 0), x -> x.where(0, MAX, 1));
        Night.NEW.refuses(BAD, x -> x.where(0, 0, 0), x -> x.where(0, 0, 4));
        Night.FULL.refuses(BAD, x -> x.where(4, 0, 0));
    }

    // ---- nearest

    @Says(promise = 11, text = "the MINUTE (0 to 240) at which they are least FAR, the first such (what = 0)")
    static void nearestAtTheEnds() {
        WreckCourt x = withShips(0, 0, 1000, 0);
        Checks.due("all the same: the first", x.nearest(0, 1, 0), 0);
        x.order(1, 239, 12, 1);
        Checks.due("the last step", x.nearest(0, 1, 0), 240);
        x.order(1, 239, 4, 1);
        Checks.due("farther by the last step", x.nearest(0, 1, 0), 0);
        x.order(1, 0, 12, 1);
        x.order(1, 1, 0, 0);
        Checks.due("the first of many", x.nearest(1, 0, 0), 1);
        x.order(1, 100, 12, 1);
        x.order(1, 101, 4, 1);
        x.order(1, 102, 12, 1);
        x.order(1, 103, 0, 0);
        x.order(1, 239, 0, 0);
        Checks.due("the first of two", x.nearest(1, 0, 0), 101);
    }

    @Says(promise = 11, text = "how FAR (1)")
    static void howFar() {
        WreckCourt x = withShips(0, 0, 1000, 0, 0, 0);
        Checks.due("all the same", x.nearest(0, 1, 1), 1000);
        x.order(1, 239, 12, 50);
        Checks.due("at the end", x.nearest(1, 0, 1), 950);
        Checks.due("at one place", x.nearest(0, 2, 1), 0);
        // squares 101 and 100 are both cut to 10: the first minute stands
        WreckCourt cut = withShips(0, 0, 10, 1);
        cut.order(1, 5, 0, 1);
        cut.order(1, 6, 0, 0);
        Checks.due("cut to the same: the first", cut.nearest(0, 1, 0), 0);
        Checks.due("cut", cut.nearest(0, 1, 1), 10);
    }

    @Says(promise = 11, text = "BAD (the same, too).")
    static void nearestOfNothing() {
        Night.SOME.refuses(BAD, x -> x.nearest(0, 0, 0), x -> x.nearest(2, 2, 1), x -> x.nearest(-1, 0, 0), x -> x.nearest(0, -1, 0), x -> x.nearest(3, 0, 0),
            x -> x.nearest(0, 3, 1), x -> x.nearest(0, 1, -1), x -> x.nearest(0, 1, 2), x -> x.nearest(MIN, 0, 0), x -> x.nearest(0, MAX, 0),
            x -> x.nearest(0, 1, MIN), x -> x.nearest(0, 1, MAX));
        Night.NEW.refuses(BAD, x -> x.nearest(0, 1, 0));
        Night.FULL.refuses(BAD, x -> x.nearest(3, 4, 0), x -> x.nearest(4, 3, 0));
    }
}
