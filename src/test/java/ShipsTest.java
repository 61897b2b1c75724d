/** Promises 6 to 11. */
public final class ShipsTest {
    private static final int[] X = {0, 38, 71, 92, 100, 92, 71, 38, 0, -38, -71, -92, -100, -92, -71, -38};
    private static final int[] Y = {-100, -92, -71, -38, 0, 38, 71, 92, 100, 92, 71, 38, 0, -38, -71, -92};
    private static final int MIN = Integer.MIN_VALUE, MAX = Integer.MAX_VALUE;

    public static void main(String[] args) {
        ship();
        courses();
        order();
        orderRefused();
        tide();
        dark();
        where();
        near();
        nearest();
        Checks.end();
    }

    private static void ship() {
        WreckCourt x = new WreckCourt();
        Checks.bad("ship", x.ship(10001, 0), x.ship(-10001, 0), x.ship(0, 10001), x.ship(0, -10001),
            x.ship(MIN, 0), x.ship(0, MAX));
        Checks.due("first", x.ship(-10000, 10000), 0);
        Checks.due("second", x.ship(10000, -10000), 1);
        x.ship(0, 0);
        Checks.due("fourth", x.ship(1, 1), 3);
        Checks.due("fifth", x.ship(0, 0), WreckCourt.FULL);
        Checks.due("BAD ahead of FULL", x.ship(10001, 0), WreckCourt.BAD);
        Checks.due("where it was put", x.where(0, 240, 0), -10000);
        Checks.due("how many", x.count(1), 4);
    }

    private static void courses() {
        for (int course = 0; course < 16; course++) {
            WreckCourt x = new WreckCourt();
            x.ship(0, 0);
            for (int speed = 1; speed <= 50; speed++) {
                x.order(0, 0, course, speed);
                Checks.due("x of course " + course, x.where(0, 3, 0), 3 * (X[course] * speed / 100));
                Checks.due("y of course " + course, x.where(0, 3, 1), 3 * (Y[course] * speed / 100));
                Checks.due("course " + course, x.where(0, 0, 2), course);
            }
        }
    }

    private static void order() {
        WreckCourt x = new WreckCourt();
        x.ship(0, 0);
        x.ship(5, 5);
        Checks.due("first order", x.order(0, 100, 4, 10), 1);
        Checks.due("earlier, told later", x.order(0, 50, 12, 20), 2);
        Checks.due("ahead of both", x.where(0, 49, 3), 0);
        Checks.due("course ahead of both", x.where(0, 49, 2), 0);
        Checks.due("from its minute on", x.where(0, 50, 3), 20);
        Checks.due("up to the next", x.where(0, 99, 2), 12);
        Checks.due("the latest", x.where(0, 100, 2), 4);
        Checks.due("where at last", x.where(0, 240, 0), -50 * 20 + 140 * 10);
        x.order(0, 50, 8, 1);
        Checks.due("of one minute the last told", x.where(0, 60, 2), 8);
        x.order(0, 50, 0, 2);
        Checks.due("and again", x.where(0, 60, 3), 2);
        Checks.due("the other ship is not moved", x.where(1, 240, 0), 5);
        x.order(1, 239, 4, 50);
        Checks.due("in the last minute", x.where(1, 239, 0), 5);
        Checks.due("behind the last minute", x.where(1, 240, 0), 55);
    }

    private static void orderRefused() {
        WreckCourt x = new WreckCourt();
        x.ship(0, 0);
        Checks.bad("order", x.order(1, 0, 0, 0), x.order(-1, 0, 0, 0), x.order(0, -1, 0, 0), x.order(0, 240, 0, 0),
            x.order(0, 0, -1, 0), x.order(0, 0, 16, 0), x.order(0, 0, 0, -1), x.order(0, 0, 0, 51),
            x.order(MAX, 0, 0, 0), x.order(0, 0, MIN, 0));
        for (int i = 1; i <= 60; i++) {
            Checks.due("order " + i, x.order(0, 240 - 4 * i, i % 16, i % 51), i);
        }
        Checks.due("61st", x.order(0, 0, 0, 0), WreckCourt.FULL);
        Checks.due("BAD ahead of FULL", x.order(0, 240, 0, 0), WreckCourt.BAD);
        Checks.due("how many", x.count(2), 60);
        Checks.due("the first still holds at last", x.where(0, 239, 3), 1);
        Checks.due("the last holds at first", x.where(0, 3, 3), 60 % 51);
    }

    private static void tide() {
        WreckCourt x = new WreckCourt();
        x.ship(0, 0);
        x.sheet(0, 2, 120);
        for (int i = 0; i < 120; i++) {
            x.set(0, i, i % 2 == 0 ? 20 : -20);
        }
        Checks.due("most minutes", x.tide(180, 0, 0, 60), 60);
        Checks.due("x at last", x.where(0, 240, 0), 1200);
        Checks.due("y at last", x.where(0, 240, 1), -1200);
        Checks.due("ahead of it", x.where(0, 180, 0), 0);
        x.set(0, 119, 7);
        x.set(0, 118, -3);
        Checks.due("the last pair", x.tide(239, 0, 118, 1), 1);
        Checks.due("in place of what was", x.where(0, 240, 0), 1200 - 23);
        Checks.due("its y", x.where(0, 240, 1), -1200 + 27);
        Checks.bad("tide", x.tide(-1, 0, 0, 1), x.tide(240, 0, 0, 1), x.tide(0, 0, 0, 0), x.tide(0, 0, 0, 61),
            x.tide(181, 0, 0, 60), x.tide(0, 8, 0, 1), x.tide(0, -1, 0, 1), x.tide(0, 0, 0, MIN), x.tide(MAX, 0, 0, 1),
            x.tide(239, 1, 0, 2));
        Checks.due("missing", x.tide(0, 1, -1, 1), Checks.NULL);
        Checks.due("i below", x.tide(0, 0, -1, 1), Checks.PLACE);
        Checks.due("i beyond", x.tide(0, 0, 119, 1), Checks.PLACE);
        Checks.due("greatest i", x.tide(0, 0, MAX, 60), Checks.PLACE);
        x.set(0, 100, 21);
        Checks.due("PLACE ahead of an item", x.tide(0, 0, 100, 11), Checks.PLACE);
        Checks.due("an item above", x.tide(0, 0, 80, 20), WreckCourt.BAD);
        Checks.due("nothing came of it", x.where(0, 180, 0), 0);
        x.set(0, 100, -21);
        Checks.due("an item below", x.tide(0, 0, 99, 1), WreckCourt.BAD);
        Checks.due("beside it", x.tide(0, 0, 98, 1), 1);
    }

    private static void dark() {
        WreckCourt x = new WreckCourt();
        Checks.bad("dark", x.dark(-1, 0, 1), x.dark(2, 0, 1), x.dark(0, -1, 1), x.dark(0, 240, 241), x.dark(0, 5, 5),
            x.dark(0, 6, 5), x.dark(1, 0, 241), x.dark(1, 0, 0), x.dark(1, 239, MAX), x.dark(1, MIN, 1));
        for (int i = 1; i <= 10; i++) {
            Checks.due("dark " + i, x.dark(i % 2, 239, 240), i);
        }
        Checks.due("11th", x.dark(0, 0, 1), WreckCourt.FULL);
        Checks.due("BAD ahead of FULL", x.dark(0, 1, 1), WreckCourt.BAD);
        x.ship(0, 0);
        x.ship(0, 600);
        Checks.due("ahead of all ten", x.where(0, 238, 4), 600);
        Checks.due("in all ten", x.where(0, 239, 4), 9999);
    }

    private static void where() {
        WreckCourt x = new WreckCourt();
        x.ship(0, 0);
        Checks.bad("where", x.where(1, 0, 0), x.where(-1, 0, 0), x.where(0, -1, 0), x.where(0, 241, 0),
            x.where(0, 241, 1), x.where(0, 240, 2), x.where(0, 240, 3), x.where(0, 240, 4), x.where(0, 0, 5),
            x.where(0, 0, -1), x.where(0, MIN, 1), x.where(MAX, 0, 4));
        Checks.due("at the end", x.where(0, 240, 1), 0);
        Checks.due("in the last minute", x.where(0, 239, 2), 0);
    }

    private static void near() {
        WreckCourt x = new WreckCourt();
        x.ship(0, 0);
        Checks.due("alone", x.where(0, 0, 4), 9999);
        x.ship(0, 1001);
        Checks.due("beyond sight", x.where(0, 0, 4), 9999);
        x.ship(1000, 44);
        Checks.due("cut to sight", x.where(0, 0, 4), 1000);
        Checks.due("likewise from there", x.where(2, 0, 4), 1000);
        x.ship(500, 31);
        Checks.due("the least", x.where(0, 0, 4), 500);
        x.dark(1, 10, 20);
        x.dark(0, 15, 25);
        Checks.due("ahead of night", x.where(0, 9, 4), 500);
        Checks.due("in night, cut to sight", x.where(0, 10, 4), 500);
        Checks.due("in fog, and night", x.where(0, 15, 4), 9999);
        Checks.due("in fog", x.where(0, 24, 4), 9999);
        Checks.due("behind fog", x.where(0, 25, 4), 500);
        Checks.due("in night, beyond", x.where(1, 10, 4), 9999);
        edgeOfSight(0, 100);
        edgeOfSight(1, 500);
        edgeOfSight(2, 1000);
    }

    private static void edgeOfSight(int dark, int sight) {
        WreckCourt x = new WreckCourt();
        x.dark(dark, 0, 240);
        x.ship(0, 0);
        x.ship(sight + 1, 0);
        Checks.due("one beyond sight", x.where(0, 0, 4), 9999);
        x.ship(0, -sight);
        Checks.due("as far as sight", x.where(0, 0, 4), sight);
        x.ship(0, 0);
        Checks.due("at one place", x.where(0, 0, 4), 0);
    }

    private static void nearest() {
        WreckCourt x = new WreckCourt();
        x.ship(0, 0);
        x.ship(10, 4);
        x.order(1, 1, 12, 1);
        // from x = 2 on FAR is cut to 4, at x = 3 it is 5
        Checks.due("the first of the least", x.nearest(0, 1, 0), 9);
        Checks.due("how far", x.nearest(0, 1, 1), 4);
        x.ship(10, 1);
        x.ship(10, 0);
        x.order(2, 5, 0, 1);
        // 101 and 100 are both cut to 10, so the first minute stands
        Checks.due("one FAR of two squares", x.nearest(0, 2, 0), 0);
        Checks.due("that FAR", x.nearest(2, 0, 1), 10);
        x.order(3, 239, 12, 50);
        Checks.due("up to the end", x.nearest(3, 1, 0), 0);
        Checks.bad("nearest", x.nearest(0, 0, 0), x.nearest(0, 4, 0), x.nearest(-1, 0, 1), x.nearest(0, 1, 2),
            x.nearest(0, 1, -1), x.nearest(MAX, MIN, 0));
        farApart();
        atBothEnds();
    }

    private static void atBothEnds() {
        WreckCourt x = new WreckCourt();
        x.ship(0, 0);
        x.ship(300, 0);
        x.order(1, 239, 12, 50);
        Checks.due("least at the end", x.nearest(0, 1, 0), 240);
        Checks.due("as far then", x.nearest(0, 1, 1), 250);
        x.order(1, 0, 12, 50);
        x.order(1, 1, 4, 1);
        Checks.due("least at 1", x.nearest(0, 1, 0), 1);
        x.order(1, 0, 4, 50);
        Checks.due("least at 0", x.nearest(0, 1, 0), 0);
        x.ship(300, 0);
        Checks.due("at one place", x.nearest(1, 2, 1), 0);
    }

    private static void farApart() {
        WreckCourt x = new WreckCourt();
        x.ship(-10000, -10000);
        x.ship(10000, 10000);
        x.order(0, 0, 14, 50);
        x.order(1, 0, 6, 50);
        Checks.due("least at first", x.nearest(0, 1, 0), 0);
        Checks.due("how far then", x.nearest(0, 1, 1), 28284);
        x.order(0, 0, 12, 50);
        x.order(1, 0, 12, 50);
        x.order(1, 239, 12, 49);
        Checks.due("least FAR stays", x.nearest(0, 1, 0), 0);
        x.order(1, 239, 10, 50);
        Checks.due("past the int's squares", x.where(1, 240, 0), 10000 - 239 * 50 - 35);
    }
}
