/** Promises 12 to 17. */
public final class HullTest {
    private static final int NONE = WreckCourt.NONE, MIN = Integer.MIN_VALUE, MAX = Integer.MAX_VALUE;

    public static void main(String[] args) {
        hull();
        door();
        doorsInTime();
        hole();
        water();
        pump();
        sinks();
        other();
        Checks.end();
    }

    private static void hull() {
        WreckCourt x = new WreckCourt();
        for (int what = 0; what < 6; what++) {
            Checks.due("room", x.hull(what, what + 1), 100);
            Checks.due("room again", x.hull(what, 1000), what + 1);
        }
        Checks.due("pump", x.hull(6, 100), 0);
        Checks.due("pump again", x.hull(6, 0), 100);
        Checks.due("bears", x.hull(7, 6000), 300);
        Checks.due("bears again", x.hull(7, 1), 6000);
        Checks.bad("hull", x.hull(-1, 1), x.hull(8, 1), x.hull(0, 0), x.hull(5, 1001), x.hull(6, -1), x.hull(6, 101),
            x.hull(7, 0), x.hull(7, 6001), x.hull(MAX, 1), x.hull(0, MIN));
        Checks.due("it stayed", x.hull(5, 1), 1000);
    }

    private static void door() {
        WreckCourt x = new WreckCourt();
        Checks.bad("door", x.door(-1, 0, 0), x.door(5, 0, 0), x.door(0, -1, 0), x.door(0, 240, 0), x.door(0, 0, -1),
            x.door(0, 0, 2), x.door(MAX, 0, 0), x.door(0, MIN, 1));
        for (int i = 1; i <= 30; i++) {
            Checks.due("door " + i, x.door(i % 5, 239, i % 2), i);
        }
        Checks.due("31st", x.door(0, 0, 0), WreckCourt.FULL);
        Checks.due("BAD ahead of FULL", x.door(5, 0, 0), WreckCourt.BAD);
    }

    private static void doorsInTime() {
        WreckCourt x = new WreckCourt();
        x.hole(0, 0, 10);
        x.door(0, 3, 1);
        x.door(0, 0, 0);
        Checks.due("shut: nothing goes over", x.water(1, 3), 0);
        Checks.due("shut: all stays", x.water(0, 3), 30);
        Checks.due("open: half of 40 goes over", x.water(0, 4), 20);
        Checks.due("and half of that, and so on", x.water(1, 4), 10);
        Checks.due("third", x.water(2, 4), 5);
        Checks.due("fourth, cut", x.water(3, 4), 3);
        Checks.due("fifth, cut", x.water(4, 4), 1);
        Checks.due("sixth", x.water(5, 4), 1);
        x.door(0, 3, 0);
        Checks.due("of one minute the last told", x.water(0, 4), 40);
    }

    private static void hole() {
        WreckCourt x = new WreckCourt();
        Checks.bad("hole", x.hole(-1, 0, 1), x.hole(6, 0, 1), x.hole(0, -1, 1), x.hole(0, 240, 1), x.hole(0, 0, 0),
            x.hole(0, 0, 101), x.hole(MIN, 0, 1), x.hole(0, 0, MAX));
        for (int i = 1; i <= 10; i++) {
            Checks.due("hole " + i, x.hole(5, 239, 100), i);
        }
        Checks.due("11th", x.hole(0, 0, 1), WreckCourt.FULL);
        Checks.due("BAD ahead of FULL", x.hole(0, 0, 0), WreckCourt.BAD);
        Checks.due("how many", x.count(6), 10);
        Checks.due("ahead of its minute", x.water(NONE, 239), 0);
        Checks.due("as far as there is room, then half over", x.water(5, 240), 50);
        Checks.due("the other half", x.water(4, 240), 50);
    }

    private static void water() {
        WreckCourt x = new WreckCourt();
        x.hull(1, 3);
        x.hole(0, 0, 100);
        x.hole(3, 0, 7);
        x.door(1, 0, 0);
        Checks.due("no more goes over than there is room", x.water(1, 1), 3);
        Checks.due("the rest stays", x.water(0, 1), 97);
        Checks.due("back through door 2", x.water(2, 1), 3);
        Checks.due("on through door 3", x.water(3, 1), 2);
        Checks.due("half of 4 - 0", x.water(4, 1) + x.water(5, 1), 2);
        Checks.due("all of it", x.water(NONE, 1), 107);
        Checks.due("none at first", x.water(NONE, 0), 0);
        Checks.bad("water", x.water(-1, 0), x.water(6, 0), x.water(0, -1), x.water(0, 241), x.water(NONE, 241),
            x.water(NONE, -1), x.water(NONE - 1, 0), x.water(MAX, MIN));
        Checks.due("the end", x.water(1, 240), 3);
        x.hull(1, 9);
        Checks.due("more room, the same night anew", x.water(1, 1), 9);
    }

    private static void pump() {
        WreckCourt x = new WreckCourt();
        for (int i = 0; i < 5; i++) {
            x.door(i, 0, 0);
        }
        x.hole(2, 0, 10);
        x.hole(4, 0, 10);
        x.hull(6, 4);
        Checks.due("of several the least", x.water(2, 1), 6);
        Checks.due("not the other", x.water(4, 1), 10);
        Checks.due("then the one with the most", x.water(4, 2), 16);
        x.hull(6, 100);
        Checks.due("as far as there is any", x.water(2, 1), 0);
        Checks.due("no less than none", x.water(NONE, 1), 10);
        Checks.due("then the other", x.water(4, 2), 0);
        x.hole(1, 5, 50);
        Checks.due("hold 1 has the most", x.water(1, 6), 0);
        x.hull(6, 9);
        Checks.due("hold 1 first", x.water(1, 6), 41);
    }

    private static void sinks() {
        WreckCourt x = new WreckCourt();
        Checks.due("whole", x.sinks(), NONE);
        x.hole(0, 10, 10);
        Checks.due("300 at 40", x.sinks(), 40);
        x.hull(7, 301);
        Checks.due("one more", x.sinks(), 41);
        x.hull(7, 6000);
        Checks.due("never", x.sinks(), NONE);
        x.hull(7, 1);
        Checks.due("at once", x.sinks(), 11);
        x.hull(6, 100);
        Checks.due("pumped from one hold alone", x.sinks(), 11);
        for (int i = 0; i < 5; i++) {
            x.door(i, 0, 0);
        }
        Checks.due("pumped dry", x.sinks(), NONE);
        WreckCourt late = new WreckCourt();
        late.hole(0, 239, 1);
        late.hull(7, 1);
        Checks.due("at the last", late.sinks(), 240);
        late.hull(6, 1);
        Checks.due("what is pumped in that minute is not there", late.sinks(), NONE);
    }

    private static void other() {
        WreckCourt x = new WreckCourt();
        x.hole(0, 0, 10);
        x.hole(5, 20, 5);
        x.door(0, 50, 0);
        x.door(4, 0, 0);
        // 200 at minute 20, then 15 a minute
        Checks.due("as it was", x.sinks(), 27);
        Checks.due("door 0 shut: two full holds", x.other(0, 0), NONE);
        Checks.due("door 0 open", x.other(1, 0), 27);
        Checks.due("door 4 open", x.other(1, 4), 27);
        Checks.due("pump of 5", x.other(2, 5), x.sinks() + later(x, 5));
        Checks.due("pump of 0", x.other(2, 0), 27);
        Checks.due("pump of 100", x.other(2, 100), NONE);
        Checks.due("no first hole", x.other(3, 0), NONE);
        Checks.due("no second hole", x.other(3, 1), 30);
        Checks.due("nothing is other behind it", x.sinks(), 27);
        Checks.due("nor the water", x.water(NONE, 20), 200);
        Checks.bad("other", x.other(-1, 0), x.other(4, 0), x.other(0, -1), x.other(0, 5), x.other(1, -1), x.other(1, 5),
            x.other(2, -1), x.other(2, 101), x.other(3, -1), x.other(3, 2), x.other(MAX, 0), x.other(0, MIN));
    }

    /** How much later she sinks with a pump that is told to the hull, and taken back. */
    private static int later(WreckCourt x, int pump) {
        int before = x.sinks();
        int old = x.hull(6, pump);
        int behind = x.sinks();
        x.hull(6, old);
        return behind - before;
    }
}
