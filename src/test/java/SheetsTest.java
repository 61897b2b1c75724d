/** Promises 1 to 5, and 34 as far as sheets go. */
public final class SheetsTest {
    private static final int MIN = Integer.MIN_VALUE, MAX = Integer.MAX_VALUE;

    public static void main(String[] args) {
        newObject();
        sheet();
        set();
        copy();
        copyRefused();
        drop();
        status();
        Checks.end();
    }

    private static void newObject() {
        WreckCourt x = new WreckCourt();
        for (int what = 0; what <= 8; what++) {
            Checks.due("count " + what + " at first", x.count(what), 0);
        }
        for (int i = 0; i < 8; i++) {
            Checks.due("drop at first", x.drop(i), Checks.NULL);
        }
        Checks.due("bears at first", x.hull(7, 300), 300);
        Checks.due("pump at first", x.hull(6, 0), 0);
        for (int hold = 0; hold < 6; hold++) {
            Checks.due("room at first", x.hull(hold, 100), 100);
        }
        Checks.due("fault at first", x.fault(), 0);
        Checks.due("trace at first", x.trace(0), WreckCourt.NONE);
        Checks.due("status at first", new WreckCourt().status(), 0);
        Checks.due("a second object is its own", x.sheet(0, 0, 3) + new WreckCourt().count(0), 3);
    }

    private static void sheet() {
        WreckCourt x = new WreckCourt();
        Checks.due("no items", x.sheet(0, 0, 0), 0);
        Checks.due("most items", x.sheet(7, 2, 120), 120);
        Checks.due("two sheets", x.count(0), 2);
        Checks.bad("sheet", x.sheet(-1, 0, 1), x.sheet(8, 0, 1), x.sheet(0, -1, 1), x.sheet(0, 3, 1),
            x.sheet(0, 0, 121), x.sheet(0, 0, MAX), x.sheet(MIN, 0, 1), x.sheet(8, 0, -1), x.sheet(0, 3, -1));
        Checks.due("fewer than none", x.sheet(1, 0, -1), Checks.SIZE);
        Checks.due("far fewer than none", x.sheet(1, 0, MIN), Checks.SIZE);
        Checks.due("nothing came of it", x.count(0), 2);
        x.set(7, 5, 77);
        Checks.due("found over a sheet", x.sheet(7, 0, -1), Checks.SIZE);
        Checks.due("it stays", x.set(7, 119, 1 << 20), 1 << 20);
        Checks.due("in place of it", x.sheet(7, 2, 6), 6);
        x.sheet(6, 2, 1);
        Checks.due("items are 0 again", x.copy(7, 5, 6, 0, 1) + x.tide(0, 7, 4, 1), 2);
        Checks.due("the new end", x.set(7, 6, 0), Checks.PLACE);
    }

    private static void set() {
        WreckCourt x = new WreckCourt();
        x.sheet(0, 0, 2);
        x.sheet(1, 1, 2);
        x.sheet(2, 2, 2);
        int[] given = {127, 128, 255, 256, -129, 32767, 32768, 65535, -32769, MAX, MIN};
        int[] bytes = {127, -128, -1, 0, 127, -1, 0, -1, -1, -1, 0};
        int[] shorts = {127, 128, 255, 256, -129, 32767, -32768, -1, 32767, -1, 0};
        for (int i = 0; i < given.length; i++) {
            Checks.due("byte " + given[i], x.set(0, 1, given[i]), bytes[i]);
            Checks.due("short " + given[i], x.set(1, 1, given[i]), shorts[i]);
            Checks.due("int " + given[i], x.set(2, 1, given[i]), given[i]);
        }
        Checks.bad("set", x.set(-1, 0, 0), x.set(8, 0, 0), x.set(MIN, 0, 0));
        Checks.due("missing, with no such place", x.set(3, -1, 0), Checks.NULL);
        Checks.due("place below", x.set(0, -1, 0), Checks.PLACE);
        Checks.due("place above", x.set(0, 2, 0), Checks.PLACE);
        Checks.due("place far above", x.set(0, MAX, 0), Checks.PLACE);
    }

    private static void copy() {
        WreckCourt x = new WreckCourt();
        x.sheet(0, 2, 8);
        for (int i = 0; i < 8; i++) {
            x.set(0, i, i + 1);
        }
        Checks.due("onward over itself", x.copy(0, 0, 0, 1, 7), 7);
        // 1 1 2 3 4 5 6 7: the tide tells the items
        x.ship(0, 0);
        Checks.due("as a tide", x.tide(0, 0, 0, 4), 4);
        int[] sumX = {0, 1, 3, 7, 13};
        int[] sumY = {0, 1, 4, 9, 16};
        for (int m = 0; m < 5; m++) {
            Checks.due("item x " + m, x.where(0, m, 0), sumX[m]);
            Checks.due("item y " + m, x.where(0, m, 1), sumY[m]);
        }
        Checks.due("back over itself", x.copy(0, 2, 0, 0, 6), 6);
        x.tide(0, 0, 0, 4);
        Checks.due("x behind four", x.where(0, 4, 0), 2 + 4 + 6 + 6);
        Checks.due("y behind four", x.where(0, 4, 1), 3 + 5 + 7 + 7);
        x.sheet(1, 2, 3);
        Checks.due("to another one", x.copy(0, 5, 1, 0, 3), 3);
        Checks.due("none at both ends", x.copy(0, 8, 1, 3, 0), 0);
    }

    private static void copyRefused() {
        WreckCourt x = new WreckCourt();
        x.sheet(0, 2, 8);
        x.sheet(1, 2, 3);
        x.sheet(2, 1, 8);
        Checks.bad("copy", x.copy(-1, 0, 0, 0, 0), x.copy(0, 0, 8, 0, 0), x.copy(3, 0, MAX, 0, 0));
        Checks.due("a missing", x.copy(3, 0, 1, 0, 1), Checks.NULL);
        Checks.due("b missing, and a place", x.copy(0, -1, 3, 0, 1), Checks.NULL);
        Checks.due("two lanes", x.copy(0, 0, 2, 0, 1), Checks.STORE);
        Checks.due("two lanes, and a place", x.copy(0, -1, 2, 0, 1), Checks.STORE);
        Checks.due("i below", x.copy(0, -1, 1, 0, 1), Checks.PLACE);
        Checks.due("j below", x.copy(0, 0, 1, -1, 1), Checks.PLACE);
        Checks.due("n below", x.copy(0, 0, 1, 0, -1), Checks.PLACE);
        Checks.due("beyond a", x.copy(0, 7, 1, 0, 2), Checks.PLACE);
        Checks.due("beyond b", x.copy(0, 0, 1, 0, 4), Checks.PLACE);
        Checks.due("i beyond, none", x.copy(0, 9, 1, 0, 0), Checks.PLACE);
        Checks.due("greatest i and n", x.copy(0, MAX, 1, 0, MAX), Checks.PLACE);
        Checks.due("greatest j and n", x.copy(0, 0, 1, MAX, MAX), Checks.PLACE);
        Checks.due("least of all", x.copy(0, MIN, 1, MIN, MIN), Checks.PLACE);
    }

    private static void drop() {
        WreckCourt x = new WreckCourt();
        x.sheet(4, 1, 9);
        x.set(4, 0, 5);
        Checks.bad("drop", x.drop(-1), x.drop(8), x.drop(MAX));
        Checks.due("drop", x.drop(4), 9);
        Checks.due("drop again", x.drop(4), Checks.NULL);
        Checks.due("none left", x.count(0), 0);
        Checks.due("laid anew", x.sheet(4, 0, 2), 2);
        x.ship(0, 0);
        x.tide(0, 4, 0, 1);
        Checks.due("0 anew", x.where(0, 1, 0), 0);
    }

    private static void status() {
        WreckCourt x = new WreckCourt();
        x.set(0, 0, 0);
        Checks.due("NULL", x.status(), 1);
        x.sheet(0, 9, 0);
        x.ship(99999, 0);
        Checks.due("BAD leaves it", x.status(), 1);
        x.sheet(0, 0, 2);
        Checks.due("no finding", x.status(), 0);
        x.set(0, 2, 0);
        Checks.due("PLACE", x.status(), 2);
        x.ship(0, 0);
        x.where(0, 0, 0);
        Checks.due("other calls leave it", x.status(), 2);
        x.sheet(0, 0, -1);
        Checks.due("SIZE", x.status(), 4);
        x.sheet(1, 1, 2);
        x.copy(0, 0, 1, 0, 1);
        Checks.due("STORE", x.status(), 5);
        x.tide(0, 0, 0, 1);
        Checks.due("a tide has none", x.status(), 0);
        x.tide(0, 0, 1, 1);
        Checks.due("a tide's PLACE", x.status(), 2);
        x.set(0, 0, 21);
        x.tide(0, 0, 0, 1);
        Checks.due("a tide's BAD leaves it", x.status(), 0);
        x.tide(0, 5, 0, 1);
        Checks.due("a tide's NULL", x.status(), 1);
        x.drop(0);
        Checks.due("drop has none", x.status(), 0);
    }
}
