/** Promises 12 to 17, sentence by sentence: what each says of edges and of refused calls. */
public final class HullEdgesTest {
    private static final int NONE = WreckCourt.NONE, BAD = WreckCourt.BAD, FULL = WreckCourt.FULL;
    private static final int MIN = Integer.MIN_VALUE, MAX = Integer.MAX_VALUE;

    public static void main(String[] args) throws Exception {
        Sentences.run(HullEdgesTest.class, 12, 17);
    }

    private static WreckCourt withDoorsShut() {
        WreckCourt x = new WreckCourt();
        for (int door = 0; door < 5; door++) {
            x.door(door, 0, 0);
        }
        return x;
    }

    private static int[] levels(WreckCourt x, int minute) {
        int[] all = new int[6];
        for (int hold = 0; hold < 6; hold++) {
            all[hold] = x.water(hold, minute);
        }
        return all;
    }

    // ---- the terms

    @Says(promise = 0, text = "DOORS 0 .. 4 (k between HOLDS k and k + 1), open at first")
    static void doorsOpenAtFirst() {
        for (int door = 0; door < 5; door++) {
            for (int hold = door; hold <= door + 1; hold++) {
                WreckCourt x = new WreckCourt();
                for (int shut = 0; shut < 5; shut++) {
                    if (shut != door) {
                        x.door(shut, 0, 0);
                    }
                }
                x.hole(hold, 239, 10);
                int[] due = new int[6];
                due[door] = 5;
                due[door + 1] = 5;
                Checks.dues("door " + door + " with water in " + hold, levels(x, 240), due);
            }
        }
    }

    @Says(promise = 0, text = "the latest one from that MINUTE or ahead of it, of one MINUTE the one told last")
    static void doorHoldsFromItsMinute() {
        WreckCourt x = withDoorsShut();
        x.hole(0, 0, 2);
        x.door(0, 9, 0);
        x.door(0, 8, 1);
        Checks.due("shut up to 7", x.water(1, 8), 0);
        Checks.due("open in 8", x.water(1, 9), 9);
        Checks.due("shut again in 9", x.water(1, 10), 9);
        Checks.due("to the end", x.water(1, 240), 9);
        x.door(0, 9, 1);
        Checks.due("told last, open in 9", x.water(1, 10), 10);
        x.door(0, 8, 0);
        Checks.due("told last, shut in 8", x.water(1, 9), 0);
        x.door(0, 9, 0);
        x.door(0, 239, 1);
        Checks.due("shut to the last minute", x.water(1, 239), 0);
        Checks.due("open in the last minute", x.water(1, 240), 50);
    }

    @Says(promise = 0, text = "HOLES, as they were told, each lets in its water, as far as there is ROOM")
    static void holesUpToTheRoom() {
        WreckCourt x = withDoorsShut();
        x.hole(2, 0, 4);
        x.hole(2, 1, 3);
        x.hole(2, 2, 100);
        int[] rooms = {1, 3, 4, 5, 10, 11, 12, 1000};
        int[] atOne = {1, 3, 4, 4, 4, 4, 4, 4};
        int[] atTwo = {1, 3, 4, 5, 10, 11, 11, 11};
        int[] atThree = {1, 3, 4, 5, 10, 11, 12, 118};
        for (int i = 0; i < rooms.length; i++) {
            x.hull(2, rooms[i]);
            Checks.due("4 into room " + rooms[i], x.water(2, 1), atOne[i]);
            Checks.due("4 and 3 into room " + rooms[i], x.water(2, 2), atTwo[i]);
            Checks.due("4 and 3 and 100 into room " + rooms[i], x.water(2, 3), atThree[i]);
            Checks.due("room " + rooms[i] + " in the end", x.water(2, 240), rooms[i]);
        }
    }

    @Says(promise = 0, text = "half of what one of its HOLDS has more than the other one (cut) goes over")
    static void halfIsCut() {
        int[] in = {1, 2, 3, 4, 5};
        int[] over = {0, 1, 1, 2, 2};
        for (int i = 0; i < in.length; i++) {
            WreckCourt on = withDoorsShut();
            on.door(2, 0, 1);
            on.hole(2, 239, in[i]);
            Checks.due("onward of " + in[i], on.water(3, 240), over[i]);
            Checks.due("stays of " + in[i], on.water(2, 240), in[i] - over[i]);
            WreckCourt back = withDoorsShut();
            back.door(2, 0, 1);
            back.hole(3, 239, in[i]);
            Checks.due("back of " + in[i], back.water(2, 240), over[i]);
            Checks.due("stays behind of " + in[i], back.water(3, 240), in[i] - over[i]);
        }
    }

    @Says(promise = 0, text = "goes over, as far as there is ROOM")
    static void overUpToTheRoom() {
        WreckCourt x = withDoorsShut();
        x.door(1, 0, 1);
        x.hole(1, 239, 50);
        int[] rooms = {1, 24, 25, 26, 1000};
        int[] over = {1, 24, 25, 25, 25};
        for (int i = 0; i < rooms.length; i++) {
            x.hull(2, rooms[i]);
            Checks.due("onward into room " + rooms[i], x.water(2, 240), over[i]);
            Checks.due("what stays", x.water(1, 240), 50 - over[i]);
        }
        WreckCourt back = withDoorsShut();
        back.door(1, 0, 1);
        back.hole(2, 239, 50);
        back.hull(1, 3);
        Checks.dues("back into room 3", levels(back, 240), 0, 3, 47, 0, 0, 0);
        back.hole(1, 239, 2);
        Checks.dues("of which 2 are taken", levels(back, 240), 0, 3, 49, 0, 0, 0);
        back.hole(1, 239, 1);
        Checks.dues("which is full", levels(back, 240), 0, 3, 50, 0, 0, 0);
    }

    @Says(promise = 0, text = "DOORS 0 to 4, if open")
    static void doorsInTheirOrder() {
        WreckCourt first = new WreckCourt();
        first.hole(0, 239, 64);
        Checks.dues("from the first hold to the last", levels(first, 240), 32, 16, 8, 4, 2, 2);
        WreckCourt last = new WreckCourt();
        last.hole(5, 239, 64);
        Checks.dues("from the last hold one door alone", levels(last, 240), 0, 0, 0, 0, 32, 32);
    }

    @Says(promise = 0, text = "PUMP takes as much from the HOLD that has the most (of several the least)")
    static void pumpFromTheFullest() {
        for (int hold = 0; hold < 6; hold++) {
            WreckCourt x = withDoorsShut();
            for (int other = 0; other < 6; other++) {
                x.hole(other, 239, other == hold ? 11 : 10);
            }
            x.hull(6, 3);
            int[] due = {10, 10, 10, 10, 10, 10};
            due[hold] = 8;
            Checks.dues("the fullest is " + hold, levels(x, 240), due);
        }
        WreckCourt x = withDoorsShut();
        for (int hold = 1; hold < 6; hold++) {
            x.hole(hold, 239, 10);
        }
        x.hull(6, 3);
        Checks.dues("of several the least", levels(x, 240), 0, 7, 10, 10, 10, 10);
    }

    @Says(promise = 0, text = "as far as there is any")
    static void pumpUpToWhatThereIs() {
        WreckCourt x = withDoorsShut();
        x.hole(1, 239, 10);
        x.hole(3, 239, 9);
        int[] pumps = {0, 9, 10, 11, 100};
        int[] left = {10, 1, 0, 0, 0};
        for (int i = 0; i < pumps.length; i++) {
            x.hull(6, pumps[i]);
            Checks.dues("pump " + pumps[i], levels(x, 240), 0, left[i], 0, 9, 0, 0);
        }
        WreckCourt dry = new WreckCourt();
        dry.hull(6, 100);
        Checks.due("nothing at all", dry.water(NONE, 240), 0);
    }

    @Says(promise = 0, text = "WATER at MINUTE m: behind MINUTES 0 to m - 1.")
    static void waterBehindTheMinutes() {
        WreckCourt x = withDoorsShut();
        x.hole(4, 0, 1);
        x.hull(4, 1000);
        for (int minute : new int[] {0, 1, 2, 239, 240}) {
            Checks.due("at " + minute, x.water(4, minute), minute);
            Checks.due("all at " + minute, x.water(NONE, minute), minute);
        }
    }

    // ---- hull

    @Says(promise = 12, text = "ROOM of a HOLD (what 0 to 5), PUMP (6), BEARS (7): what it was.")
    static void hullAtItsEdges() {
        int[] least = {1, 1, 1, 1, 1, 1, 0, 1};
        int[] most = {1000, 1000, 1000, 1000, 1000, 1000, 100, 6000};
        int[] first = {100, 100, 100, 100, 100, 100, 0, 300};
        WreckCourt x = new WreckCourt();
        for (int what = 0; what < 8; what++) {
            Checks.due("at first " + what, x.hull(what, least[what]), first[what]);
            Checks.due("the least " + what, x.hull(what, most[what]), least[what]);
            Checks.due("the most " + what, x.hull(what, most[what]), most[what]);
        }
        for (int what = 0; what < 8; what++) {
            Checks.due("still " + what, x.hull(what, 1), most[what]);
        }
    }

    @Says(promise = 12, text = "BAD.")
    static void hullOfNothing() {
        Night.SOME.refuses(BAD, x -> x.hull(-1, 1), x -> x.hull(8, 1), x -> x.hull(MIN, 1), x -> x.hull(MAX, 1));
        Night.SOME.refuses(BAD, x -> x.hull(6, -1), x -> x.hull(6, 101), x -> x.hull(6, MIN), x -> x.hull(6, MAX));
        Night.SOME.refuses(BAD, x -> x.hull(7, 0), x -> x.hull(7, 6001), x -> x.hull(7, -1), x -> x.hull(7, MIN), x -> x.hull(7, MAX));
        for (int hold = 0; hold < 6; hold++) {
            int what = hold;
            Night.SOME.refuses(BAD, x -> x.hull(what, 0), x -> x.hull(what, 1001), x -> x.hull(what, MIN), x -> x.hull(what, MAX));
        }
    }

    // ---- door

    @Says(promise = 13, text = "A DOOR is open (1), shut (0) from a MINUTE on: how many such there are.")
    static void doorsFromTheFirstToTheLast() {
        WreckCourt x = new WreckCourt();
        for (int i = 1; i <= 30; i++) {
            Checks.due("door " + i, x.door(i % 5, 240 - i, i % 2), i);
        }
        x.hole(0, 239, 10);
        // in the last minute doors 0, 1 and 3 are open by the 5th, the 1st and the 3rd, doors 2 and 4 are shut
        Checks.dues("each stands as told", levels(x, 240), 5, 3, 2, 0, 0, 0);
    }

    @Says(promise = 13, text = "BAD")
    static void doorThatIsNone() {
        Night.SOME.refuses(BAD, x -> x.door(-1, 0, 0), x -> x.door(5, 0, 0), x -> x.door(MIN, 0, 0), x -> x.door(MAX, 0, 0));
        Night.SOME.refuses(BAD, x -> x.door(0, -1, 0), x -> x.door(0, 240, 0), x -> x.door(0, MIN, 0), x -> x.door(0, MAX, 0));
        Night.SOME.refuses(BAD, x -> x.door(0, 0, -1), x -> x.door(0, 0, 2), x -> x.door(0, 0, MIN), x -> x.door(0, 0, MAX));
        Night.SOME.takes(4, x -> x.door(0, 0, 0), x -> x.door(4, 239, 1), x -> x.door(4, 0, 0), x -> x.door(0, 239, 1));
    }

    @Says(promise = 13, text = "FULL: 30.")
    static void doorsAreFull() {
        Night.FULL.refuses(FULL, x -> x.door(0, 0, 0), x -> x.door(4, 239, 1));
        Night.FULL.refuses(BAD, x -> x.door(5, 0, 0), x -> x.door(0, 240, 0), x -> x.door(0, 0, 2));
    }

    // ---- hole

    @Says(promise = 14, text = "A HOLE: how many there are.")
    static void holesFromTheFirstToTheLast() {
        WreckCourt x = withDoorsShut();
        for (int i = 1; i <= 10; i++) {
            Checks.due("hole " + i, x.hole(i % 6, 239, 10 * i), i);
            Checks.due("how many", x.count(6), i);
        }
        Checks.dues("each lets in its own", levels(x, 240), 60, 80, 100, 100, 100, 50);
    }

    @Says(promise = 14, text = "BAD: HOLD")
    static void holeInNoHold() {
        Night.SOME.refuses(BAD, x -> x.hole(-1, 0, 1), x -> x.hole(6, 0, 1), x -> x.hole(MIN, 0, 1), x -> x.hole(MAX, 0, 1), x -> x.hole(NONE, 0, 1));
        Night.SOME.takes(3, x -> x.hole(0, 0, 1), x -> x.hole(5, 0, 1));
    }

    @Says(promise = 14, text = "MINUTE")
    static void holeInNoMinute() {
        Night.SOME.refuses(BAD, x -> x.hole(0, -1, 1), x -> x.hole(0, 240, 1), x -> x.hole(0, MIN, 1), x -> x.hole(0, MAX, 1));
        Night.SOME.takes(3, x -> x.hole(0, 0, 1), x -> x.hole(0, 239, 1));
        WreckCourt x = withDoorsShut();
        x.hole(0, 7, 5);
        Checks.due("ahead of it", x.water(0, 7), 0);
        Checks.due("from it on", x.water(0, 8), 5);
        Checks.due("and on", x.water(0, 9), 10);
    }

    @Says(promise = 14, text = "how much")
    static void holeOfNoSize() {
        Night.SOME.refuses(BAD, x -> x.hole(0, 0, 0), x -> x.hole(0, 0, 101), x -> x.hole(0, 0, -1), x -> x.hole(0, 0, MIN), x -> x.hole(0, 0, MAX));
        Night.SOME.takes(3, x -> x.hole(0, 0, 1), x -> x.hole(0, 0, 100));
    }

    @Says(promise = 14, text = "FULL: 10.")
    static void holesAreFull() {
        Night.FULL.refuses(FULL, x -> x.hole(0, 0, 1), x -> x.hole(5, 239, 100));
        Night.FULL.refuses(BAD, x -> x.hole(6, 0, 1), x -> x.hole(0, 240, 1), x -> x.hole(0, 0, 0), x -> x.hole(0, 0, 101));
    }

    // ---- water

    @Says(promise = 15, text = "WATER in a HOLD at a MINUTE (0 to 240)")
    static void waterAtTheEnds() {
        WreckCourt x = withDoorsShut();
        x.hole(0, 0, 9);
        x.hole(5, 239, 8);
        Checks.dues("at first", levels(x, 0), 0, 0, 0, 0, 0, 0);
        Checks.dues("at 1", levels(x, 1), 9, 0, 0, 0, 0, 0);
        Checks.dues("at 239", levels(x, 239), 100, 0, 0, 0, 0, 0);
        Checks.dues("at the end", levels(x, 240), 100, 0, 0, 0, 0, 8);
    }

    @Says(promise = 15, text = "all of it (hold = NONE)")
    static void allWaterAtTheEnds() {
        WreckCourt x = withDoorsShut();
        for (int hold = 0; hold < 6; hold++) {
            x.hole(hold, 239 - hold, 100);
            x.hull(hold, 1000);
        }
        Checks.due("at first", x.water(NONE, 0), 0);
        Checks.due("at 235", x.water(NONE, 235), 100);
        Checks.due("at the end", x.water(NONE, 240), 100 * (1 + 2 + 3 + 4 + 5 + 6));
    }

    @Says(promise = 15, text = "BAD.")
    static void waterOfNothing() {
        Night.SOME.refuses(BAD, x -> x.water(-1, 0), x -> x.water(6, 0), x -> x.water(NONE - 1, 0), x -> x.water(NONE + 1, 0), x -> x.water(BAD, 0),
            x -> x.water(MIN, 0), x -> x.water(MAX, 0));
        Night.SOME.refuses(BAD, x -> x.water(0, -1), x -> x.water(0, 241), x -> x.water(NONE, -1), x -> x.water(NONE, 241), x -> x.water(5, MIN),
            x -> x.water(5, MAX), x -> x.water(NONE, MIN), x -> x.water(NONE, MAX));
    }

    // ---- sinks

    @Says(promise = 16, text = "When she SINKS; NONE.")
    static void sinksAtTheEnds() {
        WreckCourt x = new WreckCourt();
        Checks.due("no hole", x.sinks(), NONE);
        x.hole(0, 0, 1);
        x.hull(7, 1);
        Checks.due("behind the first minute", x.sinks(), 1);
        x.hull(7, 240);
        Checks.due("behind the last", x.sinks(), 240);
        x.hull(7, 241);
        Checks.due("one more than there is", x.sinks(), NONE);
        x.hull(7, 6000);
        Checks.due("never", x.sinks(), NONE);
    }

    @Says(promise = 0, text = "at which all WATER is BEARS or more")
    static void sinksAtAsMuchAsSheBears() {
        WreckCourt x = new WreckCourt();
        x.hole(0, 0, 10);
        x.hole(5, 0, 5);
        Checks.due("300 at first", x.sinks(), 20);
        int[] bears = {299, 300, 301, 315, 316};
        int[] due = {20, 20, 21, 21, 22};
        for (int i = 0; i < bears.length; i++) {
            x.hull(7, bears[i]);
            Checks.due("bears " + bears[i], x.sinks(), due[i]);
        }
    }

    @Says(promise = 0, text = "She SINKS at the first MINUTE m (1 to 240)")
    static void sinksAtTheFirst() {
        WreckCourt x = withDoorsShut();
        x.hull(1, 30);
        x.hull(6, 15);
        x.hole(0, 0, 10);
        x.hole(1, 0, 10);
        x.hull(7, 45);
        int[] all = {0, 10, 15, 20, 25, 30, 35, 40, 40, 45, 45, 40};
        for (int minute = 0; minute < all.length; minute++) {
            Checks.due("all at " + minute, x.water(NONE, minute), all[minute]);
        }
        Checks.due("at the first, though there is less again", x.sinks(), 9);
        x.hull(7, 40);
        Checks.due("the first of 40", x.sinks(), 7);
    }

    // ---- other

    /** The hold of the hole is full at 10 and lets in no more until its door is opened in minute 200. */
    @Says(promise = 17, text = "thing 0, 1 of a DOOR")
    static void otherDoors() {
        for (int hold = 0; hold < 5; hold++) {
            WreckCourt x = withDoorsShut();
            x.door(hold, 200, 1);
            x.hole(hold, 0, 10);
            x.hull(7, 101);
            Checks.due("as it was", x.sinks(), 202);
            for (int door = 0; door < 5; door++) {
                boolean leadsOut = door == hold || door == hold - 1;
                Checks.due("hole in " + hold + ", door " + door + " shut in all", x.other(0, door), door == hold ? NONE : 202);
                Checks.due("hole in " + hold + ", door " + door + " open in all", x.other(1, door), leadsOut ? 11 : 202);
            }
            Checks.due("nothing of it stays", x.sinks(), 202);
        }
    }

    @Says(promise = 0, text = "0 a DOOR shut in all MINUTES, 1 open in all")
    static void otherDoorsInAllMinutes() {
        WreckCourt x = withDoorsShut();
        x.hole(0, 0, 10);
        x.hull(7, 101);
        x.door(0, 0, 1);
        x.door(0, 239, 1);
        Checks.due("open as it was", x.sinks(), 11);
        Checks.due("shut, though told to be open at first and at last", x.other(0, 0), NONE);
        x.door(0, 0, 0);
        x.door(0, 239, 0);
        Checks.due("shut as it was", x.sinks(), NONE);
        Checks.due("open, though told to be shut at first and at last", x.other(1, 0), 11);
    }

    @Says(promise = 17, text = "2 PUMP of v")
    static void otherPump() {
        WreckCourt x = withDoorsShut();
        x.hull(0, 1000);
        x.hull(6, 5);
        x.hole(0, 0, 10);
        x.hull(7, 100);
        Checks.due("as it was", x.sinks(), 20);
        Checks.due("none", x.other(2, 0), 10);
        Checks.due("as it was told", x.other(2, 5), 20);
        Checks.due("nine", x.other(2, 9), 100);
        Checks.due("as much as comes in", x.other(2, 10), NONE);
        Checks.due("the most", x.other(2, 100), NONE);
        Checks.due("nothing of it stays", x.sinks(), 20);
        Checks.due("nor of the pump", x.hull(6, 5), 5);
    }

    @Says(promise = 17, text = "3 the HOLE v")
    static void otherHoles() {
        WreckCourt x = withDoorsShut();
        int[] rates = {1, 2, 4, 8, 16};
        for (int i = 0; i < rates.length; i++) {
            x.hole(i, 0, rates[i]);
            x.hull(i, 1000);
        }
        x.hull(7, 310);
        Checks.due("31 a minute", x.sinks(), 10);
        int[] due = {11, 11, 12, 14, 21};
        for (int i = 0; i < rates.length; i++) {
            Checks.due("no hole " + i, x.other(3, i), due[i]);
        }
        Checks.due("nothing of it stays", x.sinks(), 10);
    }

    @Says(promise = 17, text = "THE SAME NIGHT")
    static void otherLeavesTheNightAsItWas() {
        for (int thing = 0; thing <= 3; thing++) {
            WreckCourt x = new WreckCourt();
            x.hole(0, 0, 9);
            x.hole(3, 2, 7);
            x.door(1, 3, 0);
            x.hull(6, 2);
            int[] before = levels(x, 20);
            int all = x.water(NONE, 240);
            int sinks = x.sinks();
            x.other(thing, 1);
            Checks.dues("water behind thing " + thing, levels(x, 20), before);
            Checks.due("all water", x.water(NONE, 240), all);
            Checks.due("sinks", x.sinks(), sinks);
            x.door(4, 239, 1);
            Checks.dues("played anew", levels(x, 20), before);
        }
    }

    @Says(promise = 17, text = "when she SINKS; NONE.")
    static void otherAtTheEnds() {
        WreckCourt x = withDoorsShut();
        x.hull(0, 1000);
        x.hole(0, 0, 1);
        x.hull(7, 1);
        Checks.due("behind the first minute", x.other(2, 0), 1);
        x.hull(7, 240);
        Checks.due("behind the last", x.other(2, 0), 240);
        x.hull(7, 241);
        Checks.due("never", x.other(2, 0), NONE);
        Checks.due("no hole at all", x.other(3, 0), NONE);
    }

    @Says(promise = 17, text = "BAD: thing, v.")
    static void otherOfNoThing() {
        Night.SOME.refuses(BAD, x -> x.other(-1, 0), x -> x.other(4, 0), x -> x.other(MIN, 0), x -> x.other(MAX, 0));
    }

    @Says(promise = 17, text = "BAD: thing, v.")
    static void otherOfNoSuchDoorPumpOrHole() {
        Night.SOME.refuses(BAD, x -> x.other(0, -1), x -> x.other(0, 5), x -> x.other(1, -1), x -> x.other(1, 5), x -> x.other(0, MIN), x -> x.other(1, MAX));
        Night.SOME.refuses(BAD, x -> x.other(2, -1), x -> x.other(2, 101), x -> x.other(2, MIN), x -> x.other(2, MAX));
        Night.SOME.refuses(BAD, x -> x.other(3, -1), x -> x.other(3, 2), x -> x.other(3, 9), x -> x.other(3, MIN), x -> x.other(3, MAX));
        Night.NEW.refuses(BAD, x -> x.other(3, 0));
        Night.FULL.refuses(BAD, x -> x.other(3, 10));
        Night.NEW.takes(NONE, x -> x.other(0, 0), x -> x.other(0, 4), x -> x.other(1, 0), x -> x.other(1, 4), x -> x.other(2, 0), x -> x.other(2, 100));
    }
}
