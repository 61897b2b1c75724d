/** Promises 18 to 22. */
public final class ToldTest {
    private static final int NONE = WreckCourt.NONE, STATE = WreckCourt.STATE;
    private static final int MIN = Integer.MIN_VALUE, MAX = Integer.MAX_VALUE;

    public static void main(String[] args) {
        fact();
        withdraw();
        quarrel();
        clocks();
        heard();
        rivals();
        look();
        manyRivals();
        clocksReconcile();
        refused();
        Checks.end();
    }

    private static void fact() {
        WreckCourt x = new WreckCourt();
        Checks.bad("fact", x.fact(-1, 0, 0, 0, 0, 0, 0, 0), x.fact(4, 0, 0, 0, 0, 0, 0, 0),
            x.fact(0, -1, 0, 0, 0, 0, 0, 0), x.fact(0, 4, 0, 0, 0, 0, 0, 0), x.fact(0, 0, -1, 0, 0, 0, 0, 0),
            x.fact(0, 0, 240, 0, 0, 0, 0, 0), x.fact(0, 0, 0, 10001, 0, 0, 0, 0), x.fact(0, 0, 0, 0, -10001, 0, 0, 0),
            x.fact(0, 0, 0, 0, 0, -1, 0, 0), x.fact(0, 0, 0, 0, 0, 2001, 0, 0), x.fact(0, 0, 0, 0, 0, 0, -1, 0),
            x.fact(3, 0, 0, 0, 0, 0, 3, 0), x.fact(0, 0, 0, 0, 0, 0, 0, -1), x.fact(0, 0, 0, 0, 0, 0, 0, 100),
            x.fact(MAX, 0, 0, 0, 0, 0, 0, 0), x.fact(0, 0, MIN, 0, 0, 0, 0, 0));
        for (int i = 0; i < 12; i++) {
            Checks.due("fact " + i, x.fact(i % 4, 3, 239, 10000, -10000, 2000, 2, 99), i);
        }
        Checks.due("13th", x.fact(0, 0, 0, 0, 0, 0, 0, 0), WreckCourt.FULL);
        Checks.due("BAD ahead of FULL", x.fact(4, 0, 0, 0, 0, 0, 0, 0), WreckCourt.BAD);
        Checks.due("how many", x.count(3), 12);
    }

    private static void withdraw() {
        WreckCourt x = new WreckCourt();
        for (int sort = 0; sort < 4; sort++) {
            x.fact(sort, 0, 0, 0, 0, 0, 0, 10);
        }
        Checks.bad("withdraw", x.withdraw(-1, 10), x.withdraw(4, 10), x.withdraw(1, 9), x.withdraw(1, 100),
            x.withdraw(1, -1), x.withdraw(MAX, MIN), x.withdraw(0, 9));
        Checks.due("a fact", x.withdraw(0, 10), STATE);
        Checks.due("a paper", x.withdraw(3, 99), STATE);
        Checks.due("a word, on its day", x.withdraw(1, 10), 1);
        Checks.due("again", x.withdraw(1, 20), STATE);
        Checks.due("again, on a bad day", x.withdraw(1, 9), WreckCourt.BAD);
        Checks.due("a seen one", x.withdraw(2, 99), 1);
        Checks.due("GONE ones", x.count(4), 2);
        Checks.due("never heard", x.sure(1, 10), NONE);
        Checks.due("heard up to the day ahead", x.sure(2, 98), 2);
        Checks.due("not from then on", x.sure(2, 99), NONE);
    }

    private static void quarrel() {
        WreckCourt x = new WreckCourt();
        x.fact(0, 0, 10, 0, 0, 30, 0, 0);
        x.fact(0, 0, 12, 200, 0, 70, 0, 0);
        x.fact(0, 0, 12, 201, 0, 70, 0, 0);
        x.fact(3, 0, 8, 0, -201, 70, 0, 0);
        x.fact(0, 1, 10, 10000, 10000, 0, 0, 0);
        x.fact(0, 0, 10, 80, 61, 70, 0, 0);
        Checks.due("no more than all of it", x.quarrel(0, 1, 0, 0, 0), 0);
        Checks.due("one more", x.quarrel(0, 2, 0, 0, 0), 1);
        Checks.due("and from there", x.quarrel(2, 0, 0, 0, 0), 1);
        Checks.due("backward in time", x.quarrel(0, 3, 0, 0, 0), 1);
        Checks.due("of others", x.quarrel(2, 1, 0, 0, 0) + x.quarrel(1, 2, 0, 0, 0), 0);
        Checks.due("of others, far", x.quarrel(3, 5, 0, 0, 0) + x.quarrel(5, 3, 0, 0, 0), 2);
        Checks.due("both off the middle", x.quarrel(3, 2, 0, 0, 0) + x.quarrel(2, 5, 0, 0, 0), 0);
        Checks.due("two ships", x.quarrel(0, 4, 0, 0, 0), 0);
        Checks.due("FAR is cut: 100.6", x.quarrel(0, 5, 0, 0, 0), 0);
        Checks.due("no clock moves facts and papers", x.quarrel(0, 3, 3, 3, 3), 1);
        Checks.bad("quarrel", x.quarrel(0, 0, 0, 0, 0), x.quarrel(-1, 0, 0, 0, 0), x.quarrel(0, 6, 0, 0, 0),
            x.quarrel(0, 1, 4, 0, 0), x.quarrel(0, 1, 0, -4, 0), x.quarrel(0, 1, 0, 0, MAX), x.quarrel(MIN, 1, 0, 0, 0));
    }

    private static void clocks() {
        WreckCourt x = new WreckCourt();
        x.fact(0, 0, 10, 0, 0, 0, 0, 0);
        x.fact(1, 0, 10, 150, 0, 0, 1, 0);
        x.fact(2, 0, 10, -150, 0, 0, 2, 0);
        x.fact(1, 0, 0, 149, 0, 0, 1, 0);
        for (int c = -3; c <= 3; c++) {
            Checks.due("word by clock " + c, x.quarrel(0, 1, 0, c, 0), Math.abs(c) == 3 ? 0 : 1);
            Checks.due("seen by clock " + c, x.quarrel(0, 2, 0, 0, c), Math.abs(c) == 3 ? 0 : 1);
            Checks.due("another's clock " + c, x.quarrel(0, 1, c, 0, c), 1);
            Checks.due("both by clocks " + c, x.quarrel(1, 2, 0, c, -c), Math.abs(2 * c) * 50 >= 300 ? 0 : 1);
            Checks.due("one clock moves both " + c, x.quarrel(1, 3, 0, c, 0), 0);
        }
        x.fact(2, 0, 8, 200, 0, 0, 0, 0);
        Checks.due("an early clock is farther off", x.quarrel(0, 4, -2, 0, 0), 0);
        Checks.due("a late one is nearer", x.quarrel(0, 4, 2, 0, 0), 1);
        x.withdraw(1, 0);
        Checks.due("a GONE one keeps its clock", x.quarrel(0, 1, 0, 3, 0), 0);
        Checks.due("and quarrels as ahead", x.quarrel(0, 1, 0, 2, 0), 1);
    }

    private static void heard() {
        WreckCourt x = new WreckCourt();
        x.fact(1, 0, 0, 0, 0, 0, 0, 5);
        x.fact(1, 1, 0, 0, 0, 0, 0, 3);
        x.withdraw(1, 7);
        int[] days = {0, 2, 3, 4, 5, 6, 7, 99};
        int[] sets = {0, 0, 2, 2, 3, 3, 1, 1};
        for (int i = 0; i < days.length; i++) {
            Checks.due("heard on " + days[i], x.court(days[i], 2), Integer.bitCount(sets[i]));
            Checks.due("the rival on " + days[i], x.court(days[i], 3), sets[i]);
            Checks.due("how many on " + days[i], x.court(days[i], 1), 1);
            Checks.due("sure on " + days[i], x.court(days[i], 4), Integer.bitCount(sets[i]));
        }
        Checks.due("none on an earlier day, asked again", x.court(2, 1), 1);
        Checks.due("and the most of it", x.court(2, 0), 0);
        x.withdraw(0, 50);
        Checks.due("both GONE", x.count(4), 2);
        Checks.due("none heard any more", x.court(50, 1), 1);
        Checks.due("not yet", x.sure(0, 4), NONE);
        Checks.due("on its day", x.sure(0, 5), 2);
    }

    /** Three places of one ship at one minute: two agree with a fourth, one does not. */
    private static void rivals() {
        WreckCourt x = new WreckCourt();
        x.fact(0, 2, 50, 0, 0, 0, 0, 0);
        x.fact(3, 2, 50, 1000, 0, 0, 0, 1);
        x.fact(3, 2, 50, 5000, 0, 0, 0, 2);
        x.fact(0, 3, 50, 5000, 0, 0, 0, 3);
        x.fact(0, 2, 50, 1010, 0, 10, 0, 4);
        int[] most = {1, 1, 1, 2, 3};
        int[] rivals = {1, 2, 3, 3, 1};
        int[] least = {1, 1, 1, 9, 26};
        int[] sure = {1, 0, 0, 1, 3};
        int[] open = {0, 2, 3, 3, 0};
        int[] look = {NONE, 0, 0, 0, NONE};
        int[] left = {NONE, 1, 2, 2, NONE};
        for (int day = 0; day < 5; day++) {
            Checks.due("most on " + day, x.court(day, 0), most[day]);
            Checks.due("rivals on " + day, x.court(day, 1), rivals[day]);
            Checks.due("heard on " + day, x.court(day, 2), day + 1);
            Checks.due("least on " + day, x.court(day, 3), least[day]);
            Checks.due("sure on " + day, x.court(day, 4), sure[day]);
            Checks.due("open on " + day, x.court(day, 5), open[day]);
            Checks.due("look on " + day, x.court(day, 6), look[day]);
            Checks.due("left on " + day, x.court(day, 7), left[day]);
        }
        Checks.due("OUT", x.sure(0, 4), 0);
        Checks.due("SURE", x.sure(1, 4), 2);
        Checks.due("OPEN on an earlier day", x.sure(1, 3), 1);
        Checks.due("SURE on an earlier day", x.sure(3, 3), 2);
        Checks.due("not heard", x.sure(4, 3), NONE);
    }

    /** Of three places of ship 0 and two of ship 1, that all quarrel, a place of ship 1 halves the six rivals. */
    private static void look() {
        WreckCourt x = new WreckCourt();
        for (int i = 0; i < 3; i++) {
            x.fact(0, 0, 9, 100 * i, 0, 0, 0, 0);
        }
        x.fact(0, 1, 9, 0, 0, 0, 0, 0);
        x.fact(0, 1, 9, 0, 1, 0, 0, 0);
        Checks.due("six rivals", x.court(0, 1), 6);
        Checks.due("the look", x.court(0, 6), 3);
        Checks.due("left at worst", x.court(0, 7), 3);
        Checks.due("the least rival", x.court(0, 3), 9);
        Checks.due("open ones", x.court(0, 5), 5);
    }

    /** Six pairs that quarrel: 2 to the power of 6 rivals; four threes: 3 to the power of 4. */
    private static void manyRivals() {
        WreckCourt pairs = new WreckCourt();
        WreckCourt threes = new WreckCourt();
        for (int i = 0; i < 12; i++) {
            pairs.fact(0, i / 6, 100 * (i % 6 / 2), 5000 * (i % 2), 0, 0, 0, 0);
            threes.fact(3, i / 3, 9, 5000 * (i % 3), 0, 0, 0, 0);
        }
        Checks.due("of pairs the most", pairs.court(0, 0), 6);
        Checks.due("of pairs the rivals", pairs.court(0, 1), 64);
        Checks.due("of pairs left", pairs.court(0, 7), 32);
        Checks.due("of pairs all are open", pairs.court(0, 5), 12);
        Checks.due("of pairs none is sure", pairs.court(0, 4), 0);
        Checks.due("of threes the most", threes.court(0, 0), 4);
        Checks.due("of threes the rivals", threes.court(0, 1), 81);
        Checks.due("of threes left", threes.court(0, 7), 54);
        Checks.due("of threes the least", threes.court(0, 3), 0b001001001001);
    }

    /** A word that only agrees with a fact when its clock is 3 late, and with another when it is 3 early. */
    private static void clocksReconcile() {
        WreckCourt x = new WreckCourt();
        x.fact(0, 0, 100, 0, 0, 0, 0, 0);
        x.fact(1, 0, 100, 150, 0, 0, 2, 0);
        Checks.due("a clock lets both be", x.court(0, 0), 2);
        x.fact(1, 0, 101, 350, 0, 0, 0, 1);
        Checks.due("two clocks let all be", x.court(1, 0), 2);
        Checks.due("in two ways", x.court(1, 1), 2);
        x.fact(2, 1, 100, 0, 0, 0, 2, 2);
        x.fact(3, 1, 100, 0, 150, 0, 0, 2);
        x.fact(3, 1, 106, 0, 150, 0, 0, 2);
        Checks.due("one clock for all of a person", x.court(2, 0), 5);
        Checks.due("some way is left", x.court(2, 1), 2);
        for (int person = 0; person < 3; person++) {
            WreckCourt one = new WreckCourt();
            one.fact(1, 0, 100, 150, 0, 0, person, 0);
            one.fact(0, 0, 100, 0, 0, 0, 0, 0);
            Checks.due("the clock of " + person, one.court(0, 0), 2);
            one.fact(1, 0, 100, 301, 0, 0, person, 0);
            Checks.due("one clock of " + person, one.court(0, 1), 1);
            Checks.due("agree on a clock", one.court(0, 3), 3);
        }
    }

    private static void refused() {
        WreckCourt x = new WreckCourt();
        x.fact(0, 0, 0, 0, 0, 0, 0, 0);
        Checks.bad("court", x.court(-1, 0), x.court(100, 0), x.court(0, -1), x.court(0, 8), x.court(MAX, MIN));
        Checks.bad("sure", x.sure(-1, 0), x.sure(1, 0), x.sure(0, -1), x.sure(0, 100), x.sure(MIN, MAX));
    }
}
