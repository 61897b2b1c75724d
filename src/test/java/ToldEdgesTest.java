/** Promises 18 to 22, sentence by sentence: what each says of edges and of refused calls. */
public final class ToldEdgesTest {
    private static final int NONE = WreckCourt.NONE, BAD = WreckCourt.BAD, STATE = WreckCourt.STATE, FULL = WreckCourt.FULL;
    private static final int MIN = Integer.MIN_VALUE, MAX = Integer.MAX_VALUE;
    private static final int FACT = 0, WORD = 1, SEEN = 2, PAPER = 3;

    public static void main(String[] args) throws Exception {
        Sentences.run(ToldEdgesTest.class, 18, 22);
    }

    /** Two of ship 0, without doubt and told on day 0: sort, minute, x and person of each. */
    private static WreckCourt withTwo(int[] one, int[] other) {
        WreckCourt x = new WreckCourt();
        x.fact(one[0], 0, one[1], one[2], 0, 0, one[3], 0);
        x.fact(other[0], 0, other[1], other[2], 0, 0, other[3], 0);
        return x;
    }

    private static int[] one(int sort, int minute, int x, int person) {
        return new int[] {sort, minute, x, person};
    }

    /** court() of a day, from 0 to 7. */
    private static void courtIs(WreckCourt x, int day, int... due) {
        for (int what = 0; what <= 7; what++) {
            Checks.due("court of day " + day + ", " + what, x.court(day, what), due[what]);
        }
    }

    // ---- the terms

    @Says(promise = 0, text = "a SHIP (0 to 3, whether it is there or not)")
    static void shipsNeedNotBeThere() {
        for (int ship = 0; ship <= 3; ship++) {
            WreckCourt x = new WreckCourt();
            Checks.due("of ship " + ship, x.fact(FACT, ship, 0, 0, 0, 0, 0, 0), 0);
            Checks.due("none is there", x.count(1), 0);
            Checks.due("its mark", x.ask(0, 1), ship);
        }
    }

    @Says(promise = 0, text = "(words and seen ones; of others it is not looked at)")
    static void clocksOfWordsAndSeenOnesAlone() {
        for (int person = 0; person <= 2; person++) {
            for (int sort = FACT; sort <= PAPER; sort++) {
                WreckCourt x = withTwo(one(sort, 10, 150, person), one(FACT, 10, 0, 0));
                int[] clocks = new int[3];
                clocks[person] = 3;
                int due = sort == WORD || sort == SEEN ? 0 : 1;
                Checks.due("sort " + sort + " by clock " + person, x.quarrel(0, 1, clocks[0], clocks[1], clocks[2]), due);
                Checks.due("by the other clocks", x.quarrel(0, 1, 3 - clocks[0], 3 - clocks[1], 3 - clocks[2]), 1);
            }
        }
    }

    @Says(promise = 0, text = "HEARD on a day: TOLD on it or earlier, not WITHDRAWN on it or earlier.")
    static void heardFromTheDayToTheDay() {
        WreckCourt x = new WreckCourt();
        x.fact(WORD, 0, 0, 0, 0, 0, 0, 10);
        x.fact(SEEN, 1, 0, 0, 0, 0, 0, 0);
        x.fact(FACT, 2, 0, 0, 0, 0, 0, 99);
        x.withdraw(0, 20);
        x.withdraw(1, 99);
        int[] days = {0, 9, 10, 19, 20, 98, 99};
        int[] sets = {2, 2, 3, 3, 2, 2, 4};
        for (int i = 0; i < days.length; i++) {
            Checks.due("how many on " + days[i], x.court(days[i], 2), Integer.bitCount(sets[i]));
            Checks.due("the set on " + days[i], x.court(days[i], 3), sets[i]);
        }
    }

    @Says(promise = 0, text = "(from then on it is not HEARD)")
    static void withdrawnOnItsDay() {
        WreckCourt x = new WreckCourt();
        x.fact(WORD, 0, 0, 0, 0, 0, 0, 10);
        x.withdraw(0, 10);
        for (int day : new int[] {0, 9, 10, 11, 99}) {
            Checks.due("heard on " + day, x.court(day, 2), 0);
            Checks.due("sure on " + day, x.sure(0, day), NONE);
        }
    }

    @Says(promise = 0, text = "each PERSON's clock is wrong by -3 to 3 MINUTES")
    static void clocksAreWrongByThreeAtMost() {
        for (int person = 0; person <= 2; person++) {
            for (int sort = WORD; sort <= SEEN; sort++) {
                Checks.due("150 apart", withTwo(one(sort, 10, 150, person), one(FACT, 10, 0, 0)).court(0, 0), 2);
                Checks.due("151 apart", withTwo(one(sort, 10, 151, person), one(FACT, 10, 0, 0)).court(0, 0), 1);
                Checks.due("late: 200 apart, a minute on", withTwo(one(sort, 11, 200, person), one(FACT, 10, 0, 0)).court(0, 0), 2);
                Checks.due("early: 200 apart, a minute back", withTwo(one(sort, 9, 200, person), one(FACT, 10, 0, 0)).court(0, 0), 2);
                Checks.due("early: 201 apart", withTwo(one(sort, 9, 201, person), one(FACT, 10, 0, 0)).court(0, 0), 1);
                Checks.due("late: 201 apart", withTwo(one(sort, 11, 201, person), one(FACT, 10, 0, 0)).court(0, 0), 1);
            }
        }
    }

    @Says(promise = 0, text = "each PERSON's clock is wrong by -3 to 3 MINUTES")
    static void clocksOfTwoPersons() {
        for (int person = 0; person <= 2; person++) {
            int other = (person + 1) % 3;
            Checks.due("300 apart", withTwo(one(WORD, 10, 300, person), one(SEEN, 10, 0, other)).court(0, 0), 2);
            Checks.due("301 apart", withTwo(one(WORD, 10, 301, person), one(SEEN, 10, 0, other)).court(0, 0), 1);
            Checks.due("of one person", withTwo(one(WORD, 10, 1, person), one(SEEN, 10, 0, person)).court(0, 0), 1);
        }
    }

    @Says(promise = 0, text = "(added to t of words and seen ones)")
    static void clocksBeyondTheNight() {
        WreckCourt early = withTwo(one(WORD, 0, 300, 1), one(FACT, 3, 0, 0));
        Checks.due("ahead of minute 0", early.quarrel(0, 1, 0, -3, 0), 0);
        Checks.due("one minute less", early.quarrel(0, 1, 0, -2, 0), 1);
        Checks.due("onward", early.quarrel(0, 1, 0, 3, 0), 1);
        Checks.due("in court", early.court(0, 0), 2);
        WreckCourt late = withTwo(one(SEEN, 239, 300, 2), one(PAPER, 236, 0, 0));
        Checks.due("behind minute 239", late.quarrel(0, 1, 0, 0, 3), 0);
        Checks.due("one minute less", late.quarrel(0, 1, 0, 0, 2), 1);
        Checks.due("back", late.quarrel(0, 1, 0, 0, -3), 1);
        Checks.due("in court", late.court(0, 0), 2);
    }

    @Says(promise = 0, text = "if FAR of their places is more than both doubts and 50 times how many MINUTES they are apart, added")
    static void quarrelIfFarther() {
        // 30 and 70, and 50 times 2
        int[] apart = {199, 200, 201};
        int[] due = {0, 0, 1};
        for (int i = 0; i < apart.length; i++) {
            WreckCourt x = new WreckCourt();
            x.fact(FACT, 3, 10, 0, 0, 30, 0, 0);
            x.fact(PAPER, 3, 12, 0, -apart[i], 70, 0, 0);
            x.fact(PAPER, 3, 8, apart[i], 0, 70, 0, 0);
            Checks.due(apart[i] + " apart, onward", x.quarrel(0, 1, 0, 0, 0), due[i]);
            Checks.due(apart[i] + " apart, turned", x.quarrel(1, 0, 0, 0, 0), due[i]);
            Checks.due(apart[i] + " apart, back", x.quarrel(0, 2, 0, 0, 0), due[i]);
        }
    }

    @Says(promise = 0, text = "if FAR of their places is more than both doubts and 50 times how many MINUTES they are apart, added")
    static void quarrelOfTheLeastAndTheMost() {
        Checks.due("at one place and time", withTwo(one(FACT, 5, 7, 0), one(FACT, 5, 7, 0)).quarrel(0, 1, 0, 0, 0), 0);
        Checks.due("1 apart at one time", withTwo(one(FACT, 5, 7, 0), one(FACT, 5, 8, 0)).quarrel(0, 1, 0, 0, 0), 1);
        WreckCourt x = new WreckCourt();
        x.fact(FACT, 0, 0, -10000, -10000, 2000, 0, 0);
        x.fact(FACT, 0, 239, 10000, 10000, 2000, 0, 0);
        x.fact(FACT, 0, 239, -4000, 1950, 2000, 0, 0);
        x.fact(FACT, 0, 239, -4000, 3000, 0, 0, 0);
        // 28284 of 15950; 13366 of 15950; 14317 of 13950
        Checks.due("as far as can be", x.quarrel(0, 1, 0, 0, 0), 1);
        Checks.due("within all doubts", x.quarrel(0, 2, 0, 0, 0), 0);
        Checks.due("just beyond", x.quarrel(3, 0, 0, 0, 0), 1);
    }

    @Says(promise = 0, text = "Two FACTS of one SHIP QUARREL")
    static void twoShipsNeverQuarrel() {
        WreckCourt x = new WreckCourt();
        for (int ship = 0; ship <= 3; ship++) {
            x.fact(FACT, ship, 0, 10000 * (ship % 2), 10000 * (ship / 2), 0, 0, 0);
        }
        for (int a = 0; a <= 3; a++) {
            Checks.due("of two ships", x.quarrel(a, (a + 1) % 4, 0, 0, 0), 0);
        }
        courtIs(x, 0, 4, 1, 4, 15, 4, 0, NONE, NONE);
    }

    @Says(promise = 0, text = "RIVALS: all sets that are GREATEST by some CLOCKS, each once.")
    static void rivalsEachOnce() {
        WreckCourt x = new WreckCourt();
        x.fact(WORD, 0, 10, 0, 0, 0, 0, 0);
        x.fact(WORD, 1, 10, 0, 0, 0, 1, 0);
        x.fact(SEEN, 2, 10, 0, 0, 0, 2, 0);
        courtIs(x, 0, 3, 1, 3, 7, 3, 0, NONE, NONE);
        // the word goes with paper 1 by clock -3, with 2 and with 3 by clock 3; 1 and 3 go together by all clocks
        WreckCourt y = new WreckCourt();
        y.fact(WORD, 0, 10, 0, 0, 0, 0, 0);
        y.fact(PAPER, 0, 13, 300, 0, 0, 0, 0);
        y.fact(PAPER, 0, 7, -300, 0, 0, 0, 0);
        y.fact(PAPER, 0, 7, 300, 0, 0, 0, 0);
        courtIs(y, 0, 2, 4, 4, 3, 0, 4, 1, 2);
    }

    @Says(promise = 0, text = "GREATEST: those with the most FACTS")
    static void greatestOfAllClocks() {
        // the word goes with both papers by clock 3 alone, and by no clock one paper without it is as great
        WreckCourt x = new WreckCourt();
        x.fact(WORD, 0, 10, 0, 0, 0, 2, 0);
        x.fact(PAPER, 0, 10, 150, 0, 0, 0, 0);
        x.fact(PAPER, 0, 7, 300, 0, 0, 0, 0);
        courtIs(x, 0, 3, 1, 3, 7, 3, 0, NONE, NONE);
    }

    @Says(promise = 0, text = "SURE is a FACT that is in all RIVALS, OUT one that is in none, OPEN one that is in some.")
    static void sureOpenAndOut() {
        // of ship 0: three that agree against one; of ship 1: one against one
        WreckCourt x = new WreckCourt();
        int[] places = {0, 5000, 0, 0};
        for (int place : places) {
            x.fact(FACT, 0, 10, place, 0, 0, 0, 0);
        }
        x.fact(FACT, 1, 10, 0, 0, 0, 0, 0);
        x.fact(FACT, 1, 10, 1, 0, 0, 0, 0);
        int[] due = {2, 0, 2, 2, 1, 1};
        for (int fact = 0; fact < due.length; fact++) {
            Checks.due("fact " + fact, x.sure(fact, 0), due[fact]);
        }
        courtIs(x, 0, 4, 2, 6, 0b011101, 3, 2, 4, 1);
    }

    @Says(promise = 0, text = "THE LOOK: the OPEN FACT with the least LEFT, of several the first.")
    static void theLook() {
        // of ship 0 three against one another, of ship 1 two: halving is the best, of two halves the first
        WreckCourt x = new WreckCourt();
        for (int i = 0; i < 3; i++) {
            x.fact(FACT, 0, 9, 100 * i, 0, 0, 0, 0);
        }
        x.fact(FACT, 1, 9, 0, 0, 0, 0, 0);
        x.fact(FACT, 1, 9, 0, 1, 0, 0, 0);
        courtIs(x, 0, 2, 6, 5, 0b01001, 0, 5, 3, 3);
        // of three against one another each leaves two: the first; a sure one ahead of it is none
        WreckCourt y = new WreckCourt();
        y.fact(FACT, 2, 9, 0, 0, 0, 0, 0);
        for (int i = 0; i < 3; i++) {
            y.fact(FACT, 0, 9, 100 * i, 0, 0, 0, 0);
        }
        courtIs(y, 0, 2, 3, 4, 3, 1, 3, 1, 2);
    }

    @Says(promise = 0, text = "the greater number is what is LEFT at worst")
    static void leftAtWorst() {
        // the pairs 2 with 0, 0 with 1, and 1 with 3: 0 and 1 are in two of three, 2 and 3 in one
        WreckCourt x = new WreckCourt();
        for (int place : new int[] {0, 100, -100, 200}) {
            x.fact(FACT, 0, 10, place, 0, 50, 0, 0);
        }
        courtIs(x, 0, 2, 3, 4, 0b0011, 0, 4, 0, 2);
        WreckCourt y = new WreckCourt();
        for (int place : new int[] {-100, 0, 100, 200}) {
            y.fact(FACT, 0, 10, place, 0, 50, 0, 0);
        }
        courtIs(y, 0, 2, 3, 4, 0b0011, 0, 4, 0, 2);
    }

    // ---- fact

    @Says(promise = 18, text = "A FACT: its number.")
    static void factsFromTheFirstToTheLast() {
        WreckCourt x = new WreckCourt();
        for (int i = 0; i < 12; i++) {
            Checks.due("number", x.fact(i % 4, i % 4, 239 - i, -10000, 10000, 2000 - i, i % 3, 99 - i), i);
            Checks.due("how many", x.count(3), i + 1);
        }
        for (int i = 0; i < 12; i++) {
            Checks.due("its kind", x.kind(i), i % 4);
            Checks.due("its minute", x.as(i, 0), 239 - i);
        }
    }

    @Says(promise = 18, text = "BAD: SORT")
    static void factOfNoSort() {
        Night.SOME.refuses(BAD, x -> x.fact(-1, 0, 0, 0, 0, 0, 0, 0), x -> x.fact(4, 0, 0, 0, 0, 0, 0, 0), x -> x.fact(MIN, 0, 0, 0, 0, 0, 0, 0),
            x -> x.fact(MAX, 0, 0, 0, 0, 0, 0, 0));
        Night.SOME.takes(6, x -> x.fact(0, 0, 0, 0, 0, 0, 0, 0), x -> x.fact(3, 0, 0, 0, 0, 0, 0, 0));
    }

    @Says(promise = 18, text = "SHIP")
    static void factOfNoShip() {
        Night.SOME.refuses(BAD, x -> x.fact(0, -1, 0, 0, 0, 0, 0, 0), x -> x.fact(0, 4, 0, 0, 0, 0, 0, 0), x -> x.fact(0, MIN, 0, 0, 0, 0, 0, 0),
            x -> x.fact(0, MAX, 0, 0, 0, 0, 0, 0));
        Night.SOME.takes(6, x -> x.fact(0, 0, 0, 0, 0, 0, 0, 0), x -> x.fact(0, 3, 0, 0, 0, 0, 0, 0));
    }

    @Says(promise = 18, text = "MINUTE (0 to 239)")
    static void factInNoMinute() {
        Night.SOME.refuses(BAD, x -> x.fact(0, 0, -1, 0, 0, 0, 0, 0), x -> x.fact(0, 0, 240, 0, 0, 0, 0, 0), x -> x.fact(0, 0, MIN, 0, 0, 0, 0, 0),
            x -> x.fact(0, 0, MAX, 0, 0, 0, 0, 0));
        Night.SOME.takes(6, x -> x.fact(0, 0, 0, 0, 0, 0, 0, 0), x -> x.fact(0, 0, 239, 0, 0, 0, 0, 0));
    }

    @Says(promise = 18, text = "place")
    static void factAtNoPlace() {
        Night.SOME.refuses(BAD, x -> x.fact(0, 0, 0, 10001, 0, 0, 0, 0), x -> x.fact(0, 0, 0, -10001, 0, 0, 0, 0), x -> x.fact(0, 0, 0, 0, 10001, 0, 0, 0),
            x -> x.fact(0, 0, 0, 0, -10001, 0, 0, 0), x -> x.fact(0, 0, 0, MIN, 0, 0, 0, 0), x -> x.fact(0, 0, 0, 0, MAX, 0, 0, 0));
        Night.SOME.takes(6, x -> x.fact(0, 0, 0, 10000, -10000, 0, 0, 0), x -> x.fact(0, 0, 0, -10000, 10000, 0, 0, 0));
    }

    @Says(promise = 18, text = "doubt")
    static void factOfNoDoubt() {
        Night.SOME.refuses(BAD, x -> x.fact(0, 0, 0, 0, 0, -1, 0, 0), x -> x.fact(0, 0, 0, 0, 0, 2001, 0, 0), x -> x.fact(0, 0, 0, 0, 0, MIN, 0, 0),
            x -> x.fact(0, 0, 0, 0, 0, MAX, 0, 0));
        Night.SOME.takes(6, x -> x.fact(0, 0, 0, 0, 0, 0, 0, 0), x -> x.fact(0, 0, 0, 0, 0, 2000, 0, 0));
    }

    @Says(promise = 18, text = "PERSON")
    static void factOfNoPerson() {
        for (int sort = FACT; sort <= PAPER; sort++) {
            int any = sort;
            Night.SOME.refuses(BAD, x -> x.fact(any, 0, 0, 0, 0, 0, -1, 0), x -> x.fact(any, 0, 0, 0, 0, 0, 3, 0), x -> x.fact(any, 0, 0, 0, 0, 0, MIN, 0),
                x -> x.fact(any, 0, 0, 0, 0, 0, MAX, 0));
            Night.SOME.takes(6, x -> x.fact(any, 0, 0, 0, 0, 0, 0, 0), x -> x.fact(any, 0, 0, 0, 0, 0, 2, 0));
        }
    }

    @Says(promise = 18, text = "day")
    static void factOnNoDay() {
        Night.SOME.refuses(BAD, x -> x.fact(0, 0, 0, 0, 0, 0, 0, -1), x -> x.fact(0, 0, 0, 0, 0, 0, 0, 100), x -> x.fact(0, 0, 0, 0, 0, 0, 0, MIN),
            x -> x.fact(0, 0, 0, 0, 0, 0, 0, MAX));
        Night.SOME.takes(6, x -> x.fact(0, 0, 0, 0, 0, 0, 0, 0), x -> x.fact(0, 0, 0, 0, 0, 0, 0, 99));
    }

    @Says(promise = 18, text = "FULL: 12.")
    static void factsAreFull() {
        Night.FULL.refuses(FULL, x -> x.fact(0, 0, 0, 0, 0, 0, 0, 0), x -> x.fact(3, 3, 239, 10000, 10000, 2000, 2, 99));
        Night.FULL.refuses(BAD, x -> x.fact(4, 0, 0, 0, 0, 0, 0, 0), x -> x.fact(0, 4, 0, 0, 0, 0, 0, 0), x -> x.fact(0, 0, 240, 0, 0, 0, 0, 0),
            x -> x.fact(0, 0, 0, 10001, 0, 0, 0, 0), x -> x.fact(0, 0, 0, 0, 0, 2001, 0, 0), x -> x.fact(0, 0, 0, 0, 0, 0, 3, 0),
            x -> x.fact(0, 0, 0, 0, 0, 0, 0, 100));
        WreckCourt x = Night.FULL.make();
        x.withdraw(5, 99);
        Checks.due("a GONE one makes no place", x.fact(0, 0, 0, 0, 0, 0, 0, 0), FULL);
    }

    // ---- withdraw

    @Says(promise = 19, text = "A FACT is WITHDRAWN on a day: 1.")
    static void withdrawOnTheFirstAndTheLastDay() {
        Night.SOME.takes(1, x -> x.withdraw(1, 2), x -> x.withdraw(1, 99), x -> x.withdraw(2, 3), x -> x.withdraw(2, 99));
        WreckCourt x = new WreckCourt();
        x.fact(WORD, 0, 0, 0, 0, 0, 0, 0);
        x.fact(SEEN, 0, 0, 0, 0, 0, 0, 99);
        Checks.due("on day 0", x.withdraw(0, 0), 1);
        Checks.due("told on day 99", x.withdraw(1, 99), 1);
        Checks.due("GONE ones", x.count(4), 2);
    }

    @Says(promise = 19, text = "BAD: FACT")
    static void withdrawOfNoFact() {
        Night.SOME.refuses(BAD, x -> x.withdraw(-1, 50), x -> x.withdraw(6, 50), x -> x.withdraw(11, 50), x -> x.withdraw(MIN, 50), x -> x.withdraw(MAX, 50));
        Night.NEW.refuses(BAD, x -> x.withdraw(0, 0));
        Night.FULL.refuses(BAD, x -> x.withdraw(12, 99));
    }

    @Says(promise = 19, text = "day (below TOLD, too)")
    static void withdrawOnNoDay() {
        // 1 was told on day 2, 2 on day 3; 0 is no word, and 4, told on day 5, is GONE: BAD is the first that fits
        Night.SOME.refuses(BAD, x -> x.withdraw(1, -1), x -> x.withdraw(1, 100), x -> x.withdraw(1, 1), x -> x.withdraw(2, 2), x -> x.withdraw(1, 0),
            x -> x.withdraw(1, MIN), x -> x.withdraw(1, MAX), x -> x.withdraw(0, 0), x -> x.withdraw(3, 3), x -> x.withdraw(3, 100), x -> x.withdraw(4, 4),
            x -> x.withdraw(4, 100));
    }

    @Says(promise = 19, text = "STATE: it is no word (nor seen), or was WITHDRAWN.")
    static void withdrawOfNoWord() {
        Night.SOME.refuses(STATE, x -> x.withdraw(0, 1), x -> x.withdraw(0, 99), x -> x.withdraw(3, 4), x -> x.withdraw(3, 99));
    }

    @Says(promise = 19, text = "STATE: it is no word (nor seen), or was WITHDRAWN.")
    static void withdrawTwice() {
        Night.SOME.refuses(STATE, x -> x.withdraw(4, 5), x -> x.withdraw(4, 6), x -> x.withdraw(4, 99), x -> x.withdraw(5, 9), x -> x.withdraw(5, 6));
        WreckCourt x = Night.SOME.make();
        x.withdraw(1, 50);
        Checks.due("again", x.withdraw(1, 40), STATE);
        Checks.due("the first day holds", x.sure(1, 49) == NONE ? 0 : 1, 1);
        Checks.due("and no more", x.sure(1, 50), NONE);
    }

    // ---- quarrel

    @Says(promise = 20, text = "Whether two FACTS QUARREL by CLOCKS (-3 to 3 each of PERSONS 0, 1, 2): 1, 0.")
    static void quarrelByEachClock() {
        for (int person = 0; person <= 2; person++) {
            WreckCourt x = withTwo(one(WORD, 10, 150, person), one(FACT, 10, 0, 0));
            for (int wrong = -3; wrong <= 3; wrong++) {
                int[] clocks = new int[3];
                clocks[person] = wrong;
                int due = wrong == 3 || wrong == -3 ? 0 : 1;
                Checks.due("clock of " + person + " by " + wrong, x.quarrel(0, 1, clocks[0], clocks[1], clocks[2]), due);
            }
        }
    }

    @Says(promise = 20, text = "(-3 to 3 each of PERSONS 0, 1, 2)")
    static void quarrelByNoSuchClock() {
        Night.SOME.refuses(BAD, x -> x.quarrel(0, 1, 4, 0, 0), x -> x.quarrel(0, 1, -4, 0, 0), x -> x.quarrel(0, 1, 0, 4, 0), x -> x.quarrel(0, 1, 0, -4, 0),
            x -> x.quarrel(0, 1, 0, 0, 4), x -> x.quarrel(0, 1, 0, 0, -4), x -> x.quarrel(0, 1, MIN, 0, 0), x -> x.quarrel(0, 1, 0, MAX, 0),
            x -> x.quarrel(0, 1, 0, 0, MIN), x -> x.quarrel(0, 3, 4, 0, 0));
        Night.SOME.takes(0, x -> x.quarrel(0, 1, 3, 3, 3), x -> x.quarrel(0, 1, -3, -3, -3));
    }

    @Says(promise = 20, text = "BAD (the same, too).")
    static void quarrelOfNoTwo() {
        Night.SOME.refuses(BAD, x -> x.quarrel(0, 0, 0, 0, 0), x -> x.quarrel(5, 5, 0, 0, 0), x -> x.quarrel(-1, 0, 0, 0, 0), x -> x.quarrel(0, -1, 0, 0, 0),
            x -> x.quarrel(6, 0, 0, 0, 0), x -> x.quarrel(0, 6, 0, 0, 0), x -> x.quarrel(MIN, 0, 0, 0, 0), x -> x.quarrel(0, MAX, 0, 0, 0),
            x -> x.quarrel(6, 7, 0, 0, 0));
        Night.NEW.refuses(BAD, x -> x.quarrel(0, 1, 0, 0, 0));
        Night.FULL.refuses(BAD, x -> x.quarrel(11, 12, 0, 0, 0), x -> x.quarrel(12, 11, 0, 0, 0));
        Night.FULL.takes(0, x -> x.quarrel(0, 11, 0, 0, 0), x -> x.quarrel(11, 0, 0, 0, 0));
    }

    @Says(promise = 20, text = "Whether two FACTS QUARREL by CLOCKS (-3 to 3 each of PERSONS 0, 1, 2): 1, 0.")
    static void quarrelOfEachTwoOfTwelve() {
        WreckCourt x = new WreckCourt();
        for (int i = 0; i < 12; i++) {
            x.fact(FACT, i % 2, 10, i * i, 0, 2 * i, 0, 0);
        }
        for (int a = 0; a < 12; a++) {
            for (int b = 0; b < 12; b++) {
                boolean farther = Math.abs(a * a - b * b) > 2 * a + 2 * b;
                int due = a == b ? BAD : a % 2 == b % 2 && farther ? 1 : 0;
                Checks.due("of " + a + " and " + b, x.quarrel(a, b, 0, 0, 0), due);
            }
        }
    }

    @Says(promise = 20, text = "Whether two FACTS QUARREL by CLOCKS")
    static void quarrelOfGoneAndUnheard() {
        WreckCourt x = new WreckCourt();
        x.fact(WORD, 0, 10, 150, 0, 0, 1, 99);
        x.fact(FACT, 0, 10, 0, 0, 0, 0, 0);
        x.withdraw(0, 99);
        Checks.due("a GONE one, never heard", x.quarrel(0, 1, 0, 0, 0), 1);
        Checks.due("keeps its clock", x.quarrel(0, 1, 0, 3, 0), 0);
    }

    // ---- court

    @Says(promise = 21, text = "Of the court's FITS on a day")
    static void courtOfNothing() {
        courtIs(new WreckCourt(), 0, 0, 1, 0, 0, 0, 0, NONE, NONE);
        courtIs(new WreckCourt(), 99, 0, 1, 0, 0, 0, 0, NONE, NONE);
        WreckCourt x = new WreckCourt();
        x.fact(FACT, 0, 0, 0, 0, 0, 0, 99);
        courtIs(x, 98, 0, 1, 0, 0, 0, 0, NONE, NONE);
        courtIs(x, 99, 1, 1, 1, 1, 1, 0, NONE, NONE);
        courtIs(x, 0, 0, 1, 0, 0, 0, 0, NONE, NONE);
    }

    @Says(promise = 21, text = "0 how many FACTS the GREATEST have, 1 how many RIVALS, 2 how many FACTS are HEARD")
    static void courtOfTwelve() {
        WreckCourt agree = new WreckCourt();
        WreckCourt quarrel = new WreckCourt();
        for (int i = 0; i < 12; i++) {
            agree.fact(i % 4, 3, 239, 0, 0, 0, i % 3, 0);
            quarrel.fact(i % 2 * 3, 3, 239, 100 * i, 0, 0, i % 3, 0);
        }
        courtIs(agree, 0, 12, 1, 12, 4095, 12, 0, NONE, NONE);
        courtIs(quarrel, 0, 1, 12, 12, 1, 0, 12, 0, 11);
    }

    @Says(promise = 21, text = "3 the least RIVAL as a number")
    static void leastRival() {
        WreckCourt x = new WreckCourt();
        x.fact(FACT, 0, 10, 0, 0, 0, 0, 5);
        x.fact(FACT, 0, 10, 5000, 0, 0, 0, 0);
        x.fact(FACT, 0, 10, 5000, 0, 0, 0, 1);
        x.fact(FACT, 0, 10, 0, 0, 0, 0, 5);
        Checks.due("one of it", x.court(0, 3), 0b0010);
        Checks.due("two of it", x.court(1, 3), 0b0110);
        Checks.due("the lesser of 6 and 9", x.court(5, 3), 0b0110);
        Checks.due("of two rivals", x.court(5, 1), 2);
        WreckCourt last = new WreckCourt();
        for (int i = 0; i < 12; i++) {
            last.fact(FACT, 0, 10, i < 11 ? 100 * i : 10000, 0, 0, 0, i < 11 ? 99 : 0);
        }
        Checks.due("the last fact alone", last.court(0, 3), 2048);
    }

    @Says(promise = 21, text = "4 how many are SURE, 5 OPEN, 6 THE LOOK (NONE), 7 what is LEFT by it (NONE).")
    static void lookWhereNoneIsOpen() {
        WreckCourt x = withTwo(one(FACT, 10, 0, 0), one(FACT, 10, 0, 0));
        courtIs(x, 0, 2, 1, 2, 3, 2, 0, NONE, NONE);
        WreckCourt y = withTwo(one(FACT, 10, 0, 0), one(FACT, 10, 1, 0));
        courtIs(y, 0, 1, 2, 2, 1, 0, 2, 0, 1);
        y.fact(FACT, 0, 10, 1, 0, 0, 0, 0);
        // one is OUT now, none is OPEN
        courtIs(y, 0, 2, 1, 3, 6, 2, 0, NONE, NONE);
    }

    @Says(promise = 21, text = "BAD.")
    static void courtOnNoDay() {
        Night.SOME.refuses(BAD, x -> x.court(-1, 0), x -> x.court(100, 0), x -> x.court(MIN, 0), x -> x.court(MAX, 7));
        Night.SOME.refuses(BAD, x -> x.court(0, -1), x -> x.court(0, 8), x -> x.court(0, MIN), x -> x.court(99, MAX));
        Night.NEW.takes(0, x -> x.court(0, 0), x -> x.court(99, 0), x -> x.court(0, 2), x -> x.court(99, 5));
        Night.NEW.takes(NONE, x -> x.court(0, 7), x -> x.court(99, 7));
    }

    // ---- sure

    @Says(promise = 22, text = "A FACT on a day: 2 SURE, 1 OPEN, 0 OUT")
    static void sureOnEachDay() {
        WreckCourt x = new WreckCourt();
        x.fact(WORD, 0, 10, 0, 0, 0, 0, 0);
        x.fact(FACT, 0, 10, 5000, 0, 0, 0, 10);
        x.fact(FACT, 0, 10, 5000, 0, 0, 0, 20);
        x.withdraw(0, 30);
        int[] days = {0, 9, 10, 19, 20, 29};
        int[] ofWord = {2, 2, 1, 1, 0, 0};
        int[] ofFact = {NONE, NONE, 1, 1, 2, 2};
        for (int i = 0; i < days.length; i++) {
            Checks.due("the word on " + days[i], x.sure(0, days[i]), ofWord[i]);
            Checks.due("the fact on " + days[i], x.sure(1, days[i]), ofFact[i]);
        }
    }

    @Says(promise = 22, text = "NONE: it is not HEARD.")
    static void sureOfUnheard() {
        WreckCourt x = new WreckCourt();
        x.fact(WORD, 0, 0, 0, 0, 0, 0, 10);
        x.withdraw(0, 20);
        int[] days = {0, 9, 10, 19, 20, 99};
        int[] due = {NONE, NONE, 2, 2, NONE, NONE};
        for (int i = 0; i < days.length; i++) {
            Checks.due("on " + days[i], x.sure(0, days[i]), due[i]);
        }
    }

    @Says(promise = 22, text = "BAD.")
    static void sureOfNothing() {
        Night.SOME.refuses(BAD, x -> x.sure(-1, 9), x -> x.sure(6, 9), x -> x.sure(MIN, 9), x -> x.sure(MAX, 9), x -> x.sure(0, -1), x -> x.sure(0, 100),
            x -> x.sure(0, MIN), x -> x.sure(0, MAX), x -> x.sure(4, 100), x -> x.sure(5, -1));
        Night.NEW.refuses(BAD, x -> x.sure(0, 0));
        Night.FULL.refuses(BAD, x -> x.sure(12, 99));
        Night.SOME.takes(NONE, x -> x.sure(0, 0), x -> x.sure(5, 0), x -> x.sure(5, 99));
    }
}
