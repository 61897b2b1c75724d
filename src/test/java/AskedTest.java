/** Promises 29 to 34. */
public final class AskedTest {
    private static final int NONE = WreckCourt.NONE, MIN = Integer.MIN_VALUE, MAX = Integer.MAX_VALUE;

    public static void main(String[] args) {
        kind();
        as();
        asks();
        trace();
        count();
        Checks.end();
    }

    /** Facts 0 to 3 of the sorts 0 to 3, then a word and a seen one that are GONE. */
    private static WreckCourt told() {
        WreckCourt x = new WreckCourt();
        int[] sorts = {0, 1, 2, 3, 1, 2};
        for (int i = 0; i < sorts.length; i++) {
            x.fact(sorts[i], 3, 20 + i, 0, 0, 1001 + 2 * i, 2, 0);
        }
        x.withdraw(4, 0);
        x.withdraw(5, 99);
        return x;
    }

    private static void kind() {
        WreckCourt x = told();
        int[] kinds = {0, 1, 2, 3, 4, 4};
        for (int i = 0; i < kinds.length; i++) {
            Checks.due("kind of " + i, x.kind(i), kinds[i]);
        }
        Checks.bad("kind", x.kind(-1), x.kind(6), x.kind(MIN), x.kind(MAX));
    }

    private static void as() {
        WreckCourt x = told();
        String[] are = {"0", "01", "012", "03", "014", "014"};
        for (int i = 0; i < are.length; i++) {
            for (int kind = 0; kind < 5; kind++) {
                boolean is = are[i].indexOf((char) ('0' + kind)) >= 0;
                Checks.due("as " + i + " a " + kind, x.as(i, kind), is ? 20 + i : Checks.KIND);
                Checks.due("its status", x.status(), is ? 0 : 3);
            }
        }
        x.as(0, 4);
        Checks.bad("as", x.as(-1, 0), x.as(6, 0), x.as(0, -1), x.as(0, 5), x.as(MAX, MIN));
        Checks.due("BAD leaves the status", x.status(), 3);
    }

    private static void asks() {
        WreckCourt x = told();
        int[] sizes = {1001, 1003 + 21, 2 * (1005 + 22), 1007 / 2, 1009 + 24 - 105, 1011 + 25 - 105};
        int[] marks = {3, 5, 5, 3 + 503, 105, 105};
        int[][] sizeBodies = {{10}, {11, 10}, {12, 11, 10}, {14, 10}, {13, 11, 10, 22, 21, 20}, {13, 11, 10, 22, 21, 20}};
        int[][] markBodies = {{20}, {21, 20}, {21, 20}, {23, 20, 14, 10}, {22, 21, 20}, {22, 21, 20}};
        for (int i = 0; i < sizes.length; i++) {
            Checks.due("size of " + i, x.ask(i, 0), sizes[i]);
            traced(x, sizeBodies[i]);
            Checks.due("mark of " + i, x.ask(i, 1), marks[i]);
            traced(x, markBodies[i]);
        }
        Checks.bad("ask", x.ask(-1, 0), x.ask(6, 0), x.ask(0, -1), x.ask(0, 2), x.ask(MIN, MAX));
    }

    private static void traced(WreckCourt x, int[] bodies) {
        for (int i = 0; i < 17; i++) {
            Checks.due("trace " + i, x.trace(i), i < bodies.length ? bodies[i] : NONE);
        }
    }

    private static void trace() {
        WreckCourt x = told();
        x.ask(2, 0);
        x.ask(99, 0);
        x.ask(0, 7);
        traced(x, new int[] {12, 11, 10});
        x.ask(0, 0);
        traced(x, new int[] {10});
        Checks.due("below", x.trace(-1), NONE);
        Checks.due("far below", x.trace(MIN), NONE);
        Checks.due("far beyond", x.trace(MAX), NONE);
    }

    private static void count() {
        WreckCourt x = told();
        x.sheet(3, 0, 0);
        x.sheet(3, 1, 5);
        x.ship(0, 0);
        x.ship(0, 0);
        x.order(0, 0, 0, 0);
        x.order(0, 0, 0, 0);
        x.order(0, 0, 0, 0);
        Checks.read(x, "if fog=1 must slow;if fog=1 must slow;if fog=1 must slow;if fog=1 must slow;");
        for (int i = 0; i < 5; i++) {
            x.hole(0, 0, 1);
        }
        for (int i = 0; i < 7; i++) {
            x.done(0, 0, 0, 1);
        }
        x.feed(0L, 8);
        int[] counts = {1, 2, 3, 6, 2, 4, 5, 7, 8};
        for (int what = 0; what < counts.length; what++) {
            Checks.due("count " + what, x.count(what), counts[what]);
        }
        Checks.bad("count", x.count(-1), x.count(9), x.count(MIN), x.count(MAX));
    }
}
