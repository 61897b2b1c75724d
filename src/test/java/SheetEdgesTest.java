/** Promises 1 to 5 and 34, sentence by sentence: what each says of edges and of refused calls. */
public final class SheetEdgesTest {
    private static final int NONE = WreckCourt.NONE, BAD = WreckCourt.BAD, STATE = WreckCourt.STATE, FULL = WreckCourt.FULL;
    private static final int NULL = Checks.NULL, PLACE = Checks.PLACE, SIZE = Checks.SIZE, STORE = Checks.STORE;
    private static final int MIN = Integer.MIN_VALUE, MAX = Integer.MAX_VALUE;

    public static void main(String[] args) throws Exception {
        Sentences.run(SheetEdgesTest.class, 1, 5);
    }

    /** The items of a sheet of up to 120, told by a ship that the tide moves: each must be from -20 to 20. */
    private static int[] items(WreckCourt x, int sheet, int n) {
        if (x.count(1) == 0) {
            x.ship(0, 0);
        }
        int startX = x.where(0, 0, 0);
        int startY = x.where(0, 0, 1);
        int[] found = new int[n];
        for (int i = 0; i + 1 < n; i += 2) {
            Checks.due("a tide of items " + i, x.tide(0, sheet, i, 1), 1);
            found[i] = x.where(0, 1, 0) - startX;
            found[i + 1] = x.where(0, 1, 1) - startY;
        }
        return found;
    }

    private static WreckCourt withItems(int lane, int... items) {
        WreckCourt x = new WreckCourt();
        x.sheet(0, lane, items.length);
        for (int i = 0; i < items.length; i++) {
            x.set(0, i, items[i]);
        }
        return x;
    }

    @Says(promise = 0, text = "SHEETS 0 .. 7 are missing (at first)")
    static void sheetsMissingAtFirst() {
        WreckCourt x = new WreckCourt();
        for (int sheet = 0; sheet <= 7; sheet++) {
            Checks.due("set in sheet " + sheet, x.set(sheet, 0, 0), NULL);
            Checks.due("drop of sheet " + sheet, x.drop(sheet), NULL);
            Checks.due("tide of sheet " + sheet, x.tide(0, sheet, 0, 1), NULL);
        }
        Checks.due("how many", x.count(0), 0);
    }

    @Says(promise = 0, text = "0 to 120 ITEMS, 0 at first")
    static void itemsZeroAtFirst() {
        for (int lane = 0; lane <= 2; lane++) {
            WreckCourt x = new WreckCourt();
            x.sheet(lane, lane, 120);
            Checks.dues("items of lane " + lane, items(x, lane, 120), new int[120]);
        }
    }

    @Says(promise = 0, text = "Refusals are answers, the first of these that fits: BAD")
    static void badAheadOfTheOthers() {
        Night.SOME.refuses(BAD, x -> x.withdraw(0, 0), x -> x.withdraw(3, 100), x -> x.withdraw(4, 4), x -> x.sheet(8, 0, -1), x -> x.set(8, -1, 0),
            x -> x.copy(4, 0, 8, 0, 0), x -> x.tide(240, 4, 0, 1), x -> x.tide(0, 4, 0, 61), x -> x.tide(0, 0, -1, 0), x -> x.as(6, 4));
        Night.FULL.refuses(BAD, x -> x.ship(10001, 0), x -> x.order(4, 0, 0, 0), x -> x.dark(2, 0, 1), x -> x.door(5, 0, 0), x -> x.hole(6, 0, 1),
            x -> x.fact(4, 0, 0, 0, 0, 0, 0, 0), x -> x.feed(0L, 9), x -> x.done(4, 0, 0, 1));
    }

    @Says(promise = 0, text = "then FINDINGS, of several the first in time")
    static void theFirstFindingInTime() {
        // sheet 4 is missing, 0 has bytes, 1 and 3 have ints, 1 a 21 at place 3
        Night.SOME.refuses(NULL, x -> x.set(4, -1, 0), x -> x.copy(4, -1, 0, 0, 0), x -> x.copy(0, 0, 4, -1, 0), x -> x.tide(0, 4, -1, 1));
        Night.SOME.refuses(STORE, x -> x.copy(0, -1, 1, 0, 0), x -> x.copy(0, 0, 1, 99, 0), x -> x.copy(0, 0, 1, 0, -1));
        Night.SOME.refuses(PLACE, x -> x.tide(0, 1, 3, 2), x -> x.tide(0, 1, 2, 3));
        Night.SOME.refuses(BAD, x -> x.tide(0, 1, 2, 2));
    }

    @Says(promise = 1, text = "All as at first.")
    static void countsAtFirst() {
        WreckCourt x = new WreckCourt();
        for (int what = 0; what <= 8; what++) {
            Checks.due("count " + what, x.count(what), 0);
        }
        Checks.due("fault", x.fault(), 0);
        Checks.due("status", x.status(), 0);
        Checks.due("trace", x.trace(0), NONE);
        Checks.due("an empty tape", x.rules(), 0);
    }

    @Says(promise = 1, text = "All as at first.")
    static void hullAtFirst() {
        WreckCourt x = new WreckCourt();
        Checks.due("no water", x.water(NONE, 240), 0);
        Checks.due("sinks", x.sinks(), NONE);
        for (int what = 0; what < 8; what++) {
            Checks.due("hull " + what, x.hull(what, 1), what < 6 ? 100 : what == 6 ? 0 : 300);
        }
    }

    @Says(promise = 1, text = "All as at first.")
    static void nothingIsSharedByTwo() {
        WreckCourt used = Night.FULL.make();
        int[] looks = Night.looks(new WreckCourt());
        Checks.due("another one was used up to its limits", used.count(3), 12);
        Checks.dues("a new one beside it", Night.looks(new WreckCourt()), looks);
        Checks.due("its sheets", looks[1], 0);
    }

    @Says(promise = 2, text = "A SHEET of a LANE with n ITEMS, in place of what is there: n.")
    static void sheetOfFewestAndMost() {
        WreckCourt x = new WreckCourt();
        for (int lane = 0; lane <= 2; lane++) {
            Checks.due("none", x.sheet(lane, lane, 0), 0);
            Checks.due("no place in it", x.set(lane, 0, 0), PLACE);
            Checks.due("one", x.sheet(lane, lane, 1), 1);
            Checks.due("its place", x.set(lane, 0, 5), 5);
            Checks.due("most", x.sheet(lane + 5, lane, 120), 120);
            Checks.due("its last place", x.set(lane + 5, 119, 5), 5);
            Checks.due("and no more", x.set(lane + 5, 120, 5), PLACE);
        }
        Checks.due("how many sheets", x.count(0), 6);
    }

    @Says(promise = 2, text = "in place of what is there")
    static void sheetInPlace() {
        WreckCourt x = withItems(2, 7, 8, 9, 10);
        Checks.due("of the same size", x.sheet(0, 2, 4), 4);
        Checks.dues("0 again", items(x, 0, 4), 0, 0, 0, 0);
        x.set(0, 3, 11);
        Checks.due("smaller", x.sheet(0, 2, 2), 2);
        Checks.due("its end", x.set(0, 2, 1), PLACE);
        Checks.due("greater again", x.sheet(0, 2, 4), 4);
        Checks.dues("nothing of the old one", items(x, 0, 4), 0, 0, 0, 0);
        Checks.due("of another lane", x.sheet(0, 0, 4), 4);
        Checks.due("which holds now", x.set(0, 0, 128), -128);
        Checks.due("still one sheet", x.count(0), 1);
    }

    @Says(promise = 2, text = "BAD: SHEET")
    static void sheetThatIsNone() {
        Night.SOME.refuses(BAD, x -> x.sheet(-1, 0, 1), x -> x.sheet(8, 0, 1), x -> x.sheet(MIN, 0, 1), x -> x.sheet(MAX, 0, 1));
        Night.SOME.takes(1, x -> x.sheet(0, 0, 1), x -> x.sheet(7, 0, 1));
    }

    @Says(promise = 2, text = "LANE")
    static void laneThatIsNone() {
        Night.SOME.refuses(BAD, x -> x.sheet(0, -1, 1), x -> x.sheet(0, 3, 1), x -> x.sheet(0, MIN, 1), x -> x.sheet(0, MAX, 1));
        Night.SOME.takes(1, x -> x.sheet(0, 0, 1), x -> x.sheet(0, 1, 1), x -> x.sheet(0, 2, 1));
    }

    @Says(promise = 2, text = "n above 120")
    static void sheetTooLarge() {
        Night.SOME.refuses(BAD, x -> x.sheet(0, 0, 121), x -> x.sheet(7, 2, 121), x -> x.sheet(0, 0, MAX));
        Night.SOME.takes(120, x -> x.sheet(0, 0, 120), x -> x.sheet(7, 2, 120));
    }

    @Says(promise = 2, text = "SIZE.")
    static void sheetOfFewerThanNone() {
        Night.SOME.refuses(SIZE, x -> x.sheet(0, 0, -1), x -> x.sheet(7, 2, -1), x -> x.sheet(0, 0, MIN));
        Night.SOME.takes(BAD, x -> x.sheet(8, 0, -1), x -> x.sheet(-1, 0, -1), x -> x.sheet(0, 3, -1), x -> x.sheet(0, -1, MIN));
    }

    @Says(promise = 3, text = "ITEM i becomes v, its lowest bits, as many as the LANE has: what it is then.")
    static void bytesWrap() {
        WreckCourt x = withItems(0, 0);
        int[] given = {127, 128, 255, 256, -128, -129, -256, 0x7fffff80, MAX, MIN, MIN + 127};
        int[] becomes = {127, -128, -1, 0, -128, 127, 0, -128, -1, 0, 127};
        for (int i = 0; i < given.length; i++) {
            Checks.due("byte " + given[i], x.set(0, 0, given[i]), becomes[i]);
        }
    }

    @Says(promise = 3, text = "ITEM i becomes v, its lowest bits, as many as the LANE has: what it is then.")
    static void shortsWrap() {
        WreckCourt x = withItems(1, 0);
        int[] given = {128, 32767, 32768, 65535, 65536, -32768, -32769, -65536, MAX, MIN, MIN + 32767};
        int[] becomes = {128, 32767, -32768, -1, 0, -32768, 32767, 0, -1, 0, 32767};
        for (int i = 0; i < given.length; i++) {
            Checks.due("short " + given[i], x.set(0, 0, given[i]), becomes[i]);
        }
    }

    @Says(promise = 3, text = "ITEM i becomes v, its lowest bits, as many as the LANE has: what it is then.")
    static void intsStayWhole() {
        WreckCourt x = withItems(2, 0);
        for (int v : new int[] {0, -1, 128, 32768, 65536, -65537, MAX, MIN}) {
            Checks.due("int " + v, x.set(0, 0, v), v);
        }
    }

    @Says(promise = 3, text = "ITEM i becomes v")
    static void itemIsKeptAsItWraps() {
        WreckCourt bytes = withItems(0, 256 + 20, -256 - 20, 3, 512);
        Checks.dues("bytes", items(bytes, 0, 4), 20, -20, 3, 0);
        WreckCourt shorts = withItems(1, 65536 + 20, -65536 - 20, 3, 131072);
        Checks.dues("shorts", items(shorts, 0, 4), 20, -20, 3, 0);
        bytes.set(0, 1, 9);
        Checks.dues("beside it nothing changes", items(bytes, 0, 4), 20, 9, 3, 0);
    }

    @Says(promise = 3, text = "BAD: SHEET")
    static void setInNoSheet() {
        Night.SOME.refuses(BAD, x -> x.set(-1, 0, 0), x -> x.set(8, 0, 0), x -> x.set(MIN, 0, 0), x -> x.set(MAX, 0, 0), x -> x.set(8, -1, 0));
        Night.FULL.takes(1, x -> x.set(0, 0, 1), x -> x.set(7, 0, 1));
    }

    @Says(promise = 3, text = "NULL")
    static void setInMissing() {
        Night.SOME.refuses(NULL, x -> x.set(4, 0, 1), x -> x.set(7, 119, 1), x -> x.set(4, -1, 1), x -> x.set(4, MAX, 1));
        Night.NEW.refuses(NULL, x -> x.set(0, 0, 1));
    }

    @Says(promise = 3, text = "PLACE.")
    static void setAtNoPlace() {
        Night.SOME.refuses(PLACE, x -> x.set(0, -1, 9), x -> x.set(0, 4, 9), x -> x.set(0, MIN, 9), x -> x.set(0, MAX, 9),
            x -> x.set(2, 0, 9), x -> x.set(3, 120, 9));
        Night.SOME.takes(9, x -> x.set(0, 0, 9), x -> x.set(0, 3, 9), x -> x.set(3, 119, 9));
    }

    @Says(promise = 4, text = "n ITEMS of a from i on come to b from j on")
    static void copyUpToBothEnds() {
        WreckCourt x = withItems(2, 1, 2, 3, 4, 5, 6);
        x.sheet(1, 2, 4);
        Checks.due("from the end to the end", x.copy(0, 4, 1, 2, 2), 2);
        Checks.dues("there", items(x, 1, 4), 0, 0, 5, 6);
        Checks.due("from the beginning to the beginning", x.copy(0, 0, 1, 0, 1), 1);
        Checks.dues("there, too", items(x, 1, 4), 1, 0, 5, 6);
        Checks.due("all of it", x.copy(0, 1, 1, 0, 4), 4);
        Checks.dues("all there", items(x, 1, 4), 2, 3, 4, 5);
        Checks.dues("where it came from", items(x, 0, 6), 1, 2, 3, 4, 5, 6);
    }

    @Says(promise = 4, text = "as they were ahead: n.")
    static void copyOverItself() {
        WreckCourt on = withItems(1, 1, 2, 3, 4, 5, 6);
        Checks.due("onward", on.copy(0, 0, 0, 1, 5), 5);
        Checks.dues("as they were", items(on, 0, 6), 1, 1, 2, 3, 4, 5);
        WreckCourt back = withItems(0, 1, 2, 3, 4, 5, 6);
        Checks.due("back", back.copy(0, 1, 0, 0, 5), 5);
        Checks.dues("as they were", items(back, 0, 6), 2, 3, 4, 5, 6, 6);
        Checks.due("to its own place", back.copy(0, 0, 0, 0, 6), 6);
        Checks.dues("the same", items(back, 0, 6), 2, 3, 4, 5, 6, 6);
    }

    @Says(promise = 4, text = "n ITEMS of a from i on come to b from j on")
    static void copyOfNone() {
        WreckCourt x = withItems(2, 1, 2);
        x.sheet(1, 2, 0);
        Checks.due("none from the end to the end", x.copy(0, 2, 1, 0, 0), 0);
        Checks.due("none within", x.copy(0, 0, 0, 1, 0), 0);
        Checks.due("none of none", x.copy(1, 0, 1, 0, 0), 0);
        Checks.dues("nothing came of it", items(x, 0, 2), 1, 2);
    }

    @Says(promise = 4, text = "BAD: SHEETS")
    static void copyOfNoSheets() {
        Night.SOME.refuses(BAD, x -> x.copy(-1, 0, 0, 0, 1), x -> x.copy(8, 0, 0, 0, 1), x -> x.copy(0, 0, -1, 0, 1),
            x -> x.copy(0, 0, 8, 0, 1), x -> x.copy(MIN, 0, MAX, 0, 1), x -> x.copy(4, 0, 8, 0, 1), x -> x.copy(8, -1, 4, 0, 1));
        Night.FULL.takes(1, x -> x.copy(7, 0, 1, 0, 1), x -> x.copy(1, 0, 7, 0, 1), x -> x.copy(0, 0, 6, 0, 1));
    }

    @Says(promise = 4, text = "NULL")
    static void copyOfMissing() {
        Night.SOME.refuses(NULL, x -> x.copy(4, 0, 0, 0, 1), x -> x.copy(0, 0, 4, 0, 1), x -> x.copy(4, 0, 5, 0, 0),
            x -> x.copy(0, -1, 7, 0, 1), x -> x.copy(7, 0, 0, 0, -1), x -> x.copy(4, 0, 4, 0, 1));
    }

    @Says(promise = 4, text = "STORE")
    static void copyBetweenTwoLanes() {
        Night.SOME.refuses(STORE, x -> x.copy(0, 0, 1, 0, 1), x -> x.copy(1, 0, 0, 0, 1), x -> x.copy(0, 0, 2, 0, 0),
            x -> x.copy(2, 0, 1, 0, 0), x -> x.copy(0, -1, 1, 0, 1), x -> x.copy(0, 0, 1, 0, MIN), x -> x.copy(0, 5, 3, 0, 1));
        Night.SOME.takes(1, x -> x.copy(1, 0, 3, 0, 1), x -> x.copy(3, 0, 1, 0, 1));
    }

    @Says(promise = 4, text = "PLACE (i, j, n below 0, or beyond an end).")
    static void copyBelowNone() {
        Night.SOME.refuses(PLACE, x -> x.copy(1, -1, 3, 0, 1), x -> x.copy(1, 0, 3, -1, 1), x -> x.copy(1, 0, 3, 0, -1),
            x -> x.copy(1, MIN, 3, 0, 1), x -> x.copy(1, 0, 3, MIN, 1), x -> x.copy(1, 0, 3, 0, MIN),
            x -> x.copy(1, -1, 3, 0, 0), x -> x.copy(1, 0, 3, -1, 0), x -> x.copy(1, 3, 3, 3, -1));
    }

    @Says(promise = 4, text = "PLACE (i, j, n below 0, or beyond an end).")
    static void copyBeyondAnEnd() {
        Night.SOME.refuses(PLACE, x -> x.copy(1, 0, 3, 0, 7), x -> x.copy(3, 0, 1, 0, 7), x -> x.copy(1, 6, 3, 0, 1),
            x -> x.copy(1, 7, 3, 0, 0), x -> x.copy(3, 0, 1, 7, 0), x -> x.copy(1, 5, 3, 0, 2), x -> x.copy(3, 0, 1, 5, 2),
            x -> x.copy(2, 0, 2, 0, 1), x -> x.copy(0, 0, 0, 1, 4));
        Night.SOME.takes(6, x -> x.copy(1, 0, 3, 0, 6), x -> x.copy(3, 114, 1, 0, 6));
    }

    @Says(promise = 4, text = "PLACE (i, j, n below 0, or beyond an end).")
    static void copyPastTheGreatestNumber() {
        Night.SOME.refuses(PLACE, x -> x.copy(1, MAX, 3, 0, 1), x -> x.copy(1, 0, 3, MAX, 1), x -> x.copy(1, 1, 3, 1, MAX),
            x -> x.copy(1, MAX, 3, MAX, MAX), x -> x.copy(1, MIN, 3, 0, MAX), x -> x.copy(1, 0, 3, MIN, MAX), x -> x.copy(1, 6, 3, 0, MAX));
    }

    @Says(promise = 5, text = "A SHEET is missing from now on: how many ITEMS it had.")
    static void dropOfFewestAndMost() {
        Night.SOME.takes(0, x -> x.drop(2));
        Night.SOME.takes(4, x -> x.drop(0));
        Night.SOME.takes(120, x -> x.drop(3));
        WreckCourt x = Night.SOME.make();
        x.drop(3);
        Checks.due("missing", x.set(3, 0, 0), NULL);
        Checks.due("missing for a copy", x.copy(3, 0, 1, 0, 0), NULL);
        Checks.due("missing for a tide", x.tide(0, 3, 0, 1), NULL);
        Checks.due("one less", x.count(0), 3);
        x.sheet(3, 0, 2);
        Checks.dues("laid anew it has nothing of the old one", items(x, 3, 2), 0, 0);
    }

    @Says(promise = 5, text = "BAD")
    static void dropOfNoSheet() {
        Night.SOME.refuses(BAD, x -> x.drop(-1), x -> x.drop(8), x -> x.drop(MIN), x -> x.drop(MAX));
        Night.FULL.takes(120, x -> x.drop(0), x -> x.drop(7));
    }

    @Says(promise = 5, text = "NULL.")
    static void dropOfMissing() {
        Night.SOME.refuses(NULL, x -> x.drop(4), x -> x.drop(7));
        WreckCourt x = Night.SOME.make();
        x.drop(0);
        Checks.due("a second time", x.drop(0), NULL);
    }

    @Says(promise = 34, text = "the number of its FINDING")
    static void statusOfEachFinding() {
        WreckCourt x = Night.SOME.make();
        Checks.due("KIND", x.status(), 3);
        x.drop(7);
        Checks.due("NULL", x.status(), 1);
        x.set(0, 4, 0);
        Checks.due("PLACE", x.status(), 2);
        x.sheet(0, 0, -1);
        Checks.due("SIZE", x.status(), 4);
        x.copy(0, 0, 1, 0, 1);
        Checks.due("STORE", x.status(), 5);
        Checks.due("asked again", x.status(), 5);
    }

    @Says(promise = 34, text = "0: it had none, or there was none.")
    static void statusOfNone() {
        Checks.due("there was none", new WreckCourt().status(), 0);
        Night.Call[] calls = {x -> x.sheet(4, 0, 0), x -> x.set(0, 0, 0), x -> x.copy(0, 0, 0, 0, 0), x -> x.drop(0),
            x -> x.tide(0, 0, 0, 1), x -> x.as(0, 0)};
        for (int i = 0; i < calls.length; i++) {
            WreckCourt x = Night.SOME.make();
            calls[i].on(x);
            Checks.due("call " + i + " had none", x.status(), 0);
        }
    }

    @Says(promise = 34, text = "that was not BAD, STATE, FULL")
    static void statusIsLeftByRefusals() {
        WreckCourt x = Night.FULL.make();
        Checks.due("ahead of them", x.status(), 3);
        x.set(1, 0, 21);
        x.set(0, 120, 0);
        int[] answers = {x.sheet(0, 0, 121), x.set(8, 0, 0), x.copy(0, 0, 8, 0, 0), x.drop(-1), x.tide(240, 0, 0, 1),
            x.tide(0, 1, 0, 1), x.as(12, 0), x.as(0, 5), x.ship(10001, 0)};
        Checks.bad("refused", answers);
        Checks.due("STATE", x.withdraw(0, 99), STATE);
        Checks.due("FULL", x.ship(0, 0), FULL);
        Checks.due("behind them", x.status(), 2);
    }

    @Says(promise = 34, text = "Of the latest call with a SHEET, or as()")
    static void statusIsLeftByOtherCalls() {
        WreckCourt x = Night.SOME.make();
        int[] answers = {x.ship(0, 0), x.order(0, 0, 0, 0), x.dark(0, 0, 1), x.where(0, 0, 0), x.nearest(0, 1, 0), x.hull(0, 1),
            x.door(0, 0, 0), x.hole(0, 0, 1), x.water(0, 0), x.sinks(), x.other(0, 0), x.fact(0, 0, 0, 0, 0, 0, 0, 0),
            x.withdraw(1, 9), x.quarrel(0, 1, 0, 0, 0), x.court(0, 0), x.sure(0, 0), x.feed(0L, 1), x.rules(), x.fault(),
            x.done(0, 0, 0, 1), x.owes(0, 0, 0), x.blame(0, 0), x.kind(0), x.ask(0, 0), x.trace(0), x.count(0)};
        Checks.due("other calls", answers.length, 26);
        Checks.due("behind them", x.status(), Night.KIND_FOUND);
    }
}
