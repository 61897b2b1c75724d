import java.util.ArrayList;
import java.util.Arrays;
import java.util.List;

/**
 * Courts in three states, and all that can be seen of one: so that each refused call is tried by itself on a court of
 * its own, and nothing comes of it. Making one and looking at it stay within the 512 calls of an object.
 */
enum Night {
    NEW, SOME, FULL;

    interface Call {
        int on(WreckCourt x);
    }

    static final int KIND_FOUND = 3;
    private static final String TEN_RULES = "if fog=1 must slow;".repeat(10);

    WreckCourt make() {
        WreckCourt x = new WreckCourt();
        if (this == SOME) {
            some(x);
        } else if (this == FULL) {
            full(x);
        }
        return x;
    }

    /** Each call, on a court of its own, is answered so, and what can be seen stays as it was but for status(). */
    void refuses(int want, Call... calls) {
        int[] before = looks(make());
        for (int i = 0; i < calls.length; i++) {
            WreckCourt x = make();
            Checks.due(this + ", refused call " + i, calls[i].on(x), want);
            int[] behind = looks(x);
            boolean found = want <= Checks.NULL && want >= Checks.STORE;
            before[0] = found ? -1000010 - want : before[0];
            Checks.due(this + ", status behind refused call " + i, behind[0], before[0]);
            Checks.due(this + ", look that refused call " + i + " changed", Arrays.mismatch(before, behind), -1);
        }
    }

    /** Each call, on a court of its own, is answered so. */
    void takes(int want, Call... calls) {
        for (int i = 0; i < calls.length; i++) {
            Checks.due(this + ", call " + i, calls[i].on(make()), want);
        }
    }

    /** Sheets 0 to 3, ships 0 to 2, holes 0 and 1, facts 0 to 5 (4 and 5 GONE), three rules, status KIND. */
    private static void some(WreckCourt x) {
        x.sheet(0, 0, 4);
        int[] items = {1, -2, 3, 20};
        for (int i = 0; i < items.length; i++) {
            x.set(0, i, items[i]);
        }
        x.sheet(1, 2, 6);
        x.set(1, 0, 5);
        x.set(1, 3, 21);
        x.sheet(2, 1, 0);
        x.sheet(3, 2, 120);
        someShips(x);
        someHull(x);
        int[] sorts = {0, 1, 2, 3, 1, 2};
        for (int i = 0; i < sorts.length; i++) {
            x.fact(sorts[i], i % 2, 20 + i, 300 * i, 0, 11 + i, i % 3, 1 + i);
        }
        x.withdraw(4, 6);
        x.withdraw(5, 9);
        Checks.read(x, "if fog=1 must slow;if near<500 and night=1 must sound;if water>9 must turn;");
        Checks.read(x, "if fog=1 and fog=1 and fog=1 and");
        Checks.feed(x, "if ");
        x.done(0, 0, 100, 110);
        x.done(1, 1, 80, 90);
        x.ask(2, 0);
        x.as(0, 4);
    }

    private static void someShips(WreckCourt x) {
        x.ship(0, 0);
        x.ship(300, 0);
        x.ship(0, -700);
        x.order(0, 10, 4, 20);
        x.order(0, 60, 7, 33);
        x.order(1, 0, 12, 5);
        x.order(2, 100, 1, 50);
        x.tide(30, 0, 0, 2);
        x.dark(0, 100, 130);
        x.dark(1, 80, 200);
    }

    private static void someHull(WreckCourt x) {
        x.hull(6, 2);
        x.hull(7, 120);
        x.hull(2, 50);
        x.door(0, 20, 0);
        x.door(3, 0, 0);
        x.door(0, 90, 1);
        x.hole(0, 5, 3);
        x.hole(3, 50, 4);
    }

    /** As much of everything as there may be. */
    private static void full(WreckCourt x) {
        for (int i = 0; i < 8; i++) {
            x.sheet(i, i % 3, 120);
        }
        for (int i = 0; i < 4; i++) {
            x.set(0, i, 5 - i);
            x.ship(100 * i, 50 * i);
        }
        x.tide(0, 0, 0, 60);
        for (int i = 0; i < 60; i++) {
            x.order(i % 4, 4 * i, i % 16, i % 51);
        }
        for (int i = 0; i < 10; i++) {
            x.dark(i % 2, 20 * i, 20 * i + 10);
            x.hole(i % 6, 20 * i, 1 + i);
        }
        for (int i = 0; i < 30; i++) {
            x.door(i % 5, 8 * i, i % 2);
        }
        for (int i = 0; i < 40; i++) {
            x.done(i % 4, i / 4 % 4, 6 * i, 6 * i + 3);
        }
        for (int i = 0; i < 12; i++) {
            x.fact(i % 4, i % 2, 10 * i, 400 * i, 0, 20 * i, i % 3, i);
        }
        x.withdraw(1, 6);
        x.withdraw(2, 99);
        Checks.read(x, TEN_RULES);
        Checks.read(x, "if fog=1 and fog=1 and fog=1 and");
        Checks.feed(x, TEN_RULES + TEN_RULES + " ".repeat(20));
        x.ask(2, 0);
        x.as(0, 4);
    }

    /** What can be seen of a court, status() first, which is used up by it. */
    static int[] looks(WreckCourt x) {
        List<Integer> seen = new ArrayList<>();
        seen.add(x.status());
        for (int i = 0; i <= 8; i++) {
            seen.add(x.count(i));
        }
        for (int i = 0; i < 4; i++) {
            seen.add(x.trace(i));
        }
        seen.add(x.fault());
        lookAtShips(x, seen);
        lookAtHull(x, seen);
        lookAtFacts(x, seen);
        lookAtRules(x, seen);
        spend(x, seen);
        return seen.stream().mapToInt(Integer::intValue).toArray();
    }

    private static void lookAtShips(WreckCourt x, List<Integer> seen) {
        for (int ship = 0; ship < 4; ship++) {
            for (int what = 0; what < 2; what++) {
                seen.add(x.where(ship, 1, what));
                seen.add(x.where(ship, 60, what));
                seen.add(x.where(ship, 240, what));
            }
            for (int what = 2; what < 5; what++) {
                seen.add(x.where(ship, 120, what));
                seen.add(x.where(ship, 239, what));
            }
        }
        seen.add(x.nearest(0, 1, 0));
        seen.add(x.nearest(0, 1, 1));
    }

    private static void lookAtHull(WreckCourt x, List<Integer> seen) {
        for (int hold = 0; hold < 6; hold++) {
            seen.add(x.water(hold, 60));
            seen.add(x.water(hold, 240));
        }
        seen.add(x.water(WreckCourt.NONE, 9));
        seen.add(x.sinks());
        for (int thing = 0; thing < 4; thing++) {
            seen.add(x.other(thing, 0));
        }
    }

    private static void lookAtFacts(WreckCourt x, List<Integer> seen) {
        for (int what = 0; what < 4; what++) {
            seen.add(x.court(3, what));
            seen.add(x.court(99, what));
        }
        for (int fact = 0; fact < 12; fact++) {
            seen.add(x.kind(fact));
            seen.add(x.sure(fact, 7));
            seen.add(x.quarrel(fact, fact + 1, 1, -1, 2));
            seen.add(x.ask(fact, 0));
            seen.add(x.ask(fact, 1));
        }
    }

    private static void lookAtRules(WreckCourt x, List<Integer> seen) {
        for (int ship = 0; ship < 4; ship++) {
            for (int act = 0; act < 4; act++) {
                seen.add(x.owes(ship, 120, act));
            }
            seen.add(x.blame(ship, 0));
        }
    }

    /** What can be seen by calls alone that change something. */
    private static void spend(WreckCourt x, List<Integer> seen) {
        seen.add(x.rules());
        seen.add(x.fault());
        for (int sheet = 0; sheet < 8; sheet++) {
            seen.add(x.tide(0, sheet, 0, 2));
            seen.add(x.where(0, 1, 0));
            seen.add(x.where(0, 1, 1));
            seen.add(x.where(0, 2, 0));
            seen.add(x.where(0, 2, 1));
            seen.add(x.drop(sheet));
        }
        for (int what = 0; what < 8; what++) {
            seen.add(x.hull(what, 1));
        }
        seen.add(x.ship(0, 0));
        seen.add(x.order(0, 0, 0, 0));
        seen.add(x.dark(0, 0, 1));
        seen.add(x.door(0, 0, 0));
        seen.add(x.hole(0, 0, 1));
        seen.add(x.done(0, 0, 0, 1));
        seen.add(x.fact(0, 0, 0, 0, 0, 0, 0, 0));
    }
}
