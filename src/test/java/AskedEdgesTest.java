/** Promises 29 to 33, sentence by sentence: what each says of edges and of refused calls. */
public final class AskedEdgesTest {
    private static final int NONE = WreckCourt.NONE, BAD = WreckCourt.BAD, KIND = Checks.KIND;
    private static final int MIN = Integer.MIN_VALUE, MAX = Integer.MAX_VALUE;
    private static final int SIZE = 0, MARK = 1;

    public static void main(String[] args) throws Exception {
        Sentences.run(AskedEdgesTest.class, 29, 33);
    }

    /** One of a sort, of a ship, a minute, a doubt and a person; a GONE one if it is withdrawn. */
    private static WreckCourt withOne(boolean gone, int sort, int ship, int minute, int doubt, int person) {
        WreckCourt x = new WreckCourt();
        x.fact(sort, ship, minute, 0, 0, doubt, person, 0);
        if (gone) {
            x.withdraw(0, 99);
        }
        return x;
    }

    /** The trace has these, and NONE behind them. */
    private static void traceIs(WreckCourt x, int... bodies) {
        for (int i = 0; i < 18; i++) {
            Checks.due("trace " + i, x.trace(i), i < bodies.length ? bodies[i] : NONE);
        }
    }

    private static void asked(WreckCourt x, int what, int due, int... bodies) {
        Checks.due("ask " + what, x.ask(0, what), due);
        traceIs(x, bodies);
    }

    // ---- kind

    @Says(promise = 29, text = "The KIND of a FACT, as it is told.")
    static void kinds() {
        int[] due = {0, 1, 2, 3, 4, 4};
        WreckCourt x = Night.SOME.make();
        for (int fact = 0; fact < due.length; fact++) {
            Checks.due("kind of " + fact, x.kind(fact), due[fact]);
        }
    }

    @Says(promise = 0, text = "4 GONE, a WORD: it was WITHDRAWN (whenever)")
    static void goneWhenever() {
        WreckCourt x = new WreckCourt();
        x.fact(1, 0, 0, 0, 0, 0, 0, 0);
        x.fact(2, 0, 0, 0, 0, 0, 0, 0);
        Checks.due("a word", x.kind(0), 1);
        x.withdraw(0, 0);
        Checks.due("gone on the first day", x.kind(0), 4);
        Checks.due("a seen one", x.kind(1), 2);
        x.withdraw(1, 99);
        Checks.due("gone on the last day", x.kind(1), 4);
        Checks.due("though it is heard on a day ahead", x.sure(1, 98), 2);
    }

    @Says(promise = 0, text = "It is told as the first that fits of GONE, SEEN, WORD, PAPER, FACT: by this it is asked.")
    static void toldAsTheFirstThatFits() {
        WreckCourt seen = withOne(false, 2, 3, 10, 7, 2);
        Checks.due("SEEN ahead of WORD", seen.kind(0), 2);
        asked(seen, SIZE, 34, 12, 11, 10);
        seen.withdraw(0, 0);
        Checks.due("GONE ahead of SEEN", seen.kind(0), 4);
        asked(seen, SIZE, 17 - 105, 13, 11, 10, 22, 21, 20);
        WreckCourt word = withOne(true, 1, 3, 10, 7, 2);
        Checks.due("GONE ahead of WORD", word.kind(0), 4);
        Checks.due("PAPER ahead of FACT", withOne(false, 3, 3, 10, 7, 2).kind(0), 3);
    }

    @Says(promise = 29, text = "BAD.")
    static void kindOfNothing() {
        Night.SOME.refuses(BAD, x -> x.kind(-1), x -> x.kind(6), x -> x.kind(11), x -> x.kind(MIN), x -> x.kind(MAX));
        Night.NEW.refuses(BAD, x -> x.kind(0));
        Night.FULL.refuses(BAD, x -> x.kind(12));
        Night.FULL.takes(3, x -> x.kind(11));
    }

    // ---- as

    @Says(promise = 30, text = "A FACT is taken as one of a KIND (0 .. 4): its MINUTE.")
    static void asAtTheFirstAndTheLastMinute() {
        int[][] kinds = {{0}, {0, 1}, {0, 1, 2}, {0, 3}};
        for (int sort = 0; sort <= 3; sort++) {
            for (int kind : kinds[sort]) {
                Checks.due("sort " + sort + " as " + kind, withOne(false, sort, 0, 0, 0, 0).as(0, kind), 0);
                Checks.due("sort " + sort + " as " + kind, withOne(false, sort, 0, 239, 0, 0).as(0, kind), 239);
            }
        }
        for (int kind : new int[] {0, 1, 4}) {
            Checks.due("a GONE word as " + kind, withOne(true, 1, 0, 239, 0, 0).as(0, kind), 239);
            Checks.due("a GONE seen one as " + kind, withOne(true, 2, 0, 239, 0, 0).as(0, kind), 239);
        }
    }

    @Says(promise = 30, text = "BAD")
    static void asOfNothing() {
        Night.SOME.refuses(BAD, x -> x.as(-1, 0), x -> x.as(6, 0), x -> x.as(MIN, 0), x -> x.as(MAX, 0), x -> x.as(6, 4));
        Night.SOME.refuses(BAD, x -> x.as(0, -1), x -> x.as(0, 5), x -> x.as(0, MIN), x -> x.as(0, MAX));
        Night.NEW.refuses(BAD, x -> x.as(0, 0));
        Night.FULL.refuses(BAD, x -> x.as(12, 0));
    }

    @Says(promise = 30, text = "KIND: it is no such one (each is a FACT, SEEN and GONE ones are WORDS, too).")
    static void asNoSuchOne() {
        Night.SOME.refuses(KIND, x -> x.as(0, 1), x -> x.as(0, 2), x -> x.as(0, 3), x -> x.as(0, 4));
        Night.SOME.refuses(KIND, x -> x.as(1, 2), x -> x.as(1, 3), x -> x.as(1, 4), x -> x.as(2, 3), x -> x.as(2, 4));
        Night.SOME.refuses(KIND, x -> x.as(3, 1), x -> x.as(3, 2), x -> x.as(3, 4));
        Night.SOME.refuses(KIND, x -> x.as(4, 2), x -> x.as(4, 3), x -> x.as(5, 2), x -> x.as(5, 3));
        WreckCourt x = withOne(false, 0, 0, 7, 0, 0);
        Checks.due("well", x.as(0, 0), 7);
        Checks.due("no finding", x.status(), 0);
        Checks.due("found", x.as(0, 1), KIND);
        Checks.due("the finding", x.status(), 3);
    }

    // ---- ask

    @Says(promise = 0, text = "10 lent to all FACTS: r.")
    static void sizeOfFacts() {
        asked(withOne(false, 0, 3, 239, 0, 2), SIZE, 0, 10);
        asked(withOne(false, 0, 3, 239, 2000, 2), SIZE, 2000, 10);
    }

    @Says(promise = 0, text = "11 of WORDS: what 10 gives, and t.")
    static void sizeOfWords() {
        asked(withOne(false, 1, 3, 0, 0, 2), SIZE, 0, 11, 10);
        asked(withOne(false, 1, 3, 239, 2000, 2), SIZE, 2239, 11, 10);
    }

    @Says(promise = 0, text = "12 of SEEN ones: what 11 gives, twice.")
    static void sizeOfSeenOnes() {
        asked(withOne(false, 2, 3, 0, 0, 2), SIZE, 0, 12, 11, 10);
        asked(withOne(false, 2, 3, 239, 2000, 2), SIZE, 4478, 12, 11, 10);
    }

    @Says(promise = 0, text = "13 of GONE ones: what 11 gives, less MARK.")
    static void sizeOfGoneOnes() {
        asked(withOne(true, 1, 3, 0, 0, 2), SIZE, -105, 13, 11, 10, 22, 21, 20);
        asked(withOne(true, 1, 0, 239, 2000, 0), SIZE, 2139, 13, 11, 10, 22, 21, 20);
        asked(withOne(true, 2, 3, 1, 1, 2), SIZE, -103, 13, 11, 10, 22, 21, 20);
    }

    @Says(promise = 0, text = "14 of PAPERS: what 10 gives, by 2.")
    static void sizeOfPapers() {
        asked(withOne(false, 3, 3, 239, 0, 2), SIZE, 0, 14, 10);
        asked(withOne(false, 3, 3, 239, 1, 2), SIZE, 0, 14, 10);
        asked(withOne(false, 3, 3, 239, 1999, 2), SIZE, 999, 14, 10);
        asked(withOne(false, 3, 3, 239, 2000, 2), SIZE, 1000, 14, 10);
    }

    @Says(promise = 0, text = "20 lent to all FACTS: the SHIP.")
    static void markOfFacts() {
        asked(withOne(false, 0, 0, 239, 2000, 2), MARK, 0, 20);
        asked(withOne(false, 0, 3, 239, 2000, 2), MARK, 3, 20);
    }

    @Says(promise = 0, text = "21 of WORDS: what 20 gives, and the PERSON.")
    static void markOfWords() {
        asked(withOne(false, 1, 3, 239, 2000, 2), MARK, 5, 21, 20);
        asked(withOne(false, 1, 0, 239, 2000, 0), MARK, 0, 21, 20);
        asked(withOne(false, 2, 3, 239, 2000, 1), MARK, 4, 21, 20);
    }

    @Says(promise = 0, text = "22 of GONE ones: what 21 gives, and 100.")
    static void markOfGoneOnes() {
        asked(withOne(true, 1, 0, 239, 2000, 0), MARK, 100, 22, 21, 20);
        asked(withOne(true, 2, 3, 239, 2000, 2), MARK, 105, 22, 21, 20);
    }

    @Says(promise = 0, text = "23 of PAPERS: what 20 gives, and SIZE.")
    static void markOfPapers() {
        asked(withOne(false, 3, 3, 239, 0, 2), MARK, 3, 23, 20, 14, 10);
        asked(withOne(false, 3, 0, 239, 1999, 2), MARK, 999, 23, 20, 14, 10);
        asked(withOne(false, 3, 3, 239, 2000, 2), MARK, 1003, 23, 20, 14, 10);
    }

    @Says(promise = 31, text = "An ASK (0, 1) of a FACT.")
    static void askOfTheFirstAndTheLast() {
        // of the first: a fact of ship 0 without doubt; of the last: a paper of ship 1 with doubt 220
        Night.FULL.takes(0, x -> x.ask(0, SIZE), x -> x.ask(0, MARK));
        Night.FULL.takes(110, x -> x.ask(11, SIZE));
        Night.FULL.takes(111, x -> x.ask(11, MARK));
    }

    @Says(promise = 31, text = "BAD.")
    static void askOfNothing() {
        Night.SOME.refuses(BAD, x -> x.ask(-1, 0), x -> x.ask(6, 0), x -> x.ask(MIN, 0), x -> x.ask(MAX, 1));
        Night.SOME.refuses(BAD, x -> x.ask(0, -1), x -> x.ask(0, 2), x -> x.ask(0, MIN), x -> x.ask(0, MAX));
        Night.NEW.refuses(BAD, x -> x.ask(0, 0));
        Night.FULL.refuses(BAD, x -> x.ask(12, 0));
    }

    @Says(promise = 31, text = "THE TRACE is empty ahead of it.")
    static void traceIsEmptyAheadOfEach() {
        WreckCourt x = Night.SOME.make();
        x.ask(5, SIZE);
        traceIs(x, 13, 11, 10, 22, 21, 20);
        x.ask(0, SIZE);
        traceIs(x, 10);
        x.ask(3, MARK);
        traceIs(x, 23, 20, 14, 10);
        for (int i = 0; i < 20; i++) {
            x.ask(5, SIZE);
        }
        traceIs(x, 13, 11, 10, 22, 21, 20);
    }

    // ---- trace

    @Says(promise = 32, text = "Number i of THE TRACE; NONE.")
    static void traceOfNothing() {
        traceIs(new WreckCourt());
        WreckCourt x = Night.SOME.make();
        traceIs(x, 12, 11, 10);
        for (int i : new int[] {-1, 3, 15, 16, 17, MIN, MAX}) {
            Checks.due("trace " + i, x.trace(i), NONE);
        }
        traceIs(x, 12, 11, 10);
    }

    @Says(promise = 0, text = "What is refused, or found, changes nothing but status().")
    static void traceStaysBehindARefusedAsk() {
        WreckCourt x = Night.SOME.make();
        Checks.bad("ask", x.ask(6, 0), x.ask(-1, 0), x.ask(0, 2), x.ask(0, -1));
        traceIs(x, 12, 11, 10);
        x.as(0, 4);
        x.kind(0);
        x.sure(0, 9);
        traceIs(x, 12, 11, 10);
    }

    // ---- count

    @Says(promise = 33, text = "0 SHEETS, 1 SHIPS, 2 ORDERS, 3 FACTS, 4 GONE ones, 5 RULES, 6 HOLES, 7 DONE, 8 bytes on the tape")
    static void countsOfNoneSomeAndAll() {
        int[] some = {4, 3, 4, 6, 2, 3, 2, 2, 3};
        int[] full = {8, 4, 60, 12, 2, 10, 10, 40, 400};
        for (int what = 0; what <= 8; what++) {
            Checks.due("none of " + what, Night.NEW.make().count(what), 0);
            Checks.due("some of " + what, Night.SOME.make().count(what), some[what]);
            Checks.due("all of " + what, Night.FULL.make().count(what), full[what]);
        }
    }

    @Says(promise = 33, text = "4 GONE ones")
    static void countOfAllGone() {
        WreckCourt x = new WreckCourt();
        for (int i = 0; i < 12; i++) {
            x.fact(1 + i % 2, 0, 0, 0, 0, 0, 0, 0);
        }
        for (int i = 0; i < 12; i++) {
            Checks.due("ahead of " + i, x.count(4), i);
            x.withdraw(i, 99 - i);
            x.withdraw(i, 99);
        }
        Checks.due("all", x.count(4), 12);
        Checks.due("all are FACTS still", x.count(3), 12);
    }

    @Says(promise = 33, text = "BAD.")
    static void countOfNothing() {
        Night.SOME.refuses(BAD, x -> x.count(-1), x -> x.count(9), x -> x.count(MIN), x -> x.count(MAX));
    }
}
