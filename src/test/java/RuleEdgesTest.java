/** Promises 23 to 28, sentence by sentence: what each says of edges and of refused calls. */
public final class RuleEdgesTest {
    private static final int NONE = WreckCourt.NONE, BAD = WreckCourt.BAD, FULL = WreckCourt.FULL, FAULTED = -1000100;
    private static final int MIN = Integer.MIN_VALUE, MAX = Integer.MAX_VALUE;
    private static final int SLOW = 0, SOUND = 1, LIGHT = 2, TURN = 3;
    private static final String RULE = "if fog=1 must slow;", THREE = "if fog=1 and fog=1 and fog=1 ";

    public static void main(String[] args) throws Exception {
        Sentences.run(RuleEdgesTest.class, 23, 28);
    }

    private static void reads(String text, int rules) {
        WreckCourt x = new WreckCourt();
        Checks.due("'" + text + "'", Checks.read(x, text), rules);
        Checks.due("fault of '" + text + "'", x.fault(), 0);
    }

    private static void faults(String text, int place, int number) {
        WreckCourt x = new WreckCourt();
        Checks.due("'" + text + "'", Checks.read(x, text), FAULTED - place);
        Checks.due("fault of '" + text + "'", x.fault(), number);
        Checks.due("rules of '" + text + "'", x.count(5), 0);
    }

    /** A court with one ship and these rules. */
    private static WreckCourt withRules(String text) {
        WreckCourt x = new WreckCourt();
        x.ship(0, 0);
        Checks.read(x, text);
        return x;
    }

    private static void blameIs(WreckCourt x, int ship, int... due) {
        for (int what = 0; what <= 3; what++) {
            Checks.due("blame of " + ship + ", " + what, x.blame(ship, what), due[what]);
        }
    }

    // ---- the terms: tokens

    @Says(promise = 0, text = "NAMES (letters a to z, 6 at most)")
    static void names() {
        reads("if speed=1 must sound;", 1);
        faults("if speede=1 must sound;", 3, 1);
        faults("if speedee=1 must sound;", 3, 1);
        faults("if spee=1 must sound;", 3, 1);
        faults("if speedspeed=1 must slow;", 3, 1);
        faults("z".repeat(400), 0, 1);
        faults("a", 0, 1);
        faults("i", 0, 1);
        faults("iif fog=1 must slow;", 0, 1);
        faults("ifa fog=1 must slow;", 0, 1);
        faults("ifz fog=1 must slow;", 0, 1);
        faults("if fog=1 must slowz;", 14, 1);
        faults("if Fog=1 must slow;", 3, 1);
        faults("if fog=1 must sloW;", 14, 1);
        faults("if f g=1 must slow;", 3, 1);
    }

    @Says(promise = 0, text = "NAMES (letters a to z, 6 at most)")
    static void bytesBesideTheLetters() {
        for (char sign : new char[] {'`', '{', 'A', 'Z', '@', '[', '_', (char) ('s' + 128), (char) 255, (char) 0}) {
            faults("if fog=1 must slow;" + sign, 19, 1);
            faults("if fog=1 must" + sign + "slow;", 13, 1);
            faults("if fog=1 must slow" + sign + ";", 18, 1);
        }
    }

    @Says(promise = 0, text = "NUMBERS (figures, 4 at most)")
    static void numbers() {
        for (String number : new String[] {"0", "9", "00", "0000", "9999", "1000"}) {
            reads("if fog=" + number + " must slow;", 1);
        }
        for (String number : new String[] {"00000", "10000", "99999", "1234567890", "4294967297"}) {
            faults("if fog=" + number + " must slow;", 7, 1);
        }
        faults("if fog=1 2 must slow;", 9, 1);
        faults("if fog=-1 must slow;", 7, 1);
        faults("if fog=1.5 must slow;", 8, 1);
        faults("if fog=1/ must slow;", 8, 1);
        faults("if fog=1: must slow;", 8, 1);
        faults("if fog=/ must slow;", 7, 1);
        faults("if fog=: must slow;", 7, 1);
        faults("if fog=" + "7".repeat(393), 7, 1);
    }

    @Says(promise = 0, text = "SIGNS ; < > =")
    static void signs() {
        reads("if fog<1 must slow;", 1);
        reads("if fog>1 must slow;", 1);
        reads("if fog=1 must slow;", 1);
        for (char sign : new char[] {';', ':', '?', '!', ',', '+'}) {
            faults("if fog" + sign + "1 must slow;", 6, 1);
        }
        for (char sign : new char[] {'<', '>', '=', ':', ',', '.'}) {
            faults("if fog=1 must slow" + sign, 18, 1);
        }
        faults("if fog<=1 must slow;", 7, 1);
        faults("if fog==1 must slow;", 7, 1);
        faults("if fog= =1 must slow;", 8, 1);
        faults(";", 0, 1);
    }

    @Says(promise = 0, text = "bytes 32 and 10 between")
    static void gaps() {
        reads("", 0);
        reads(" ", 0);
        reads("\n", 0);
        reads(" \n".repeat(200), 0);
        reads("\n\nif  \n fog\n=\n1\nmust\n\nslow\n;\n\n", 1);
        reads("if fog<1and near>2and water=3must turn;if night=1must light;", 2);
        faults("iffog=1 must slow;", 0, 1);
        faults("if fog=1 mustslow;", 9, 1);
        for (char gap : new char[] {9, 11, 13, 31, 33, 12, 8, 0, 160, 138}) {
            faults("if" + gap + "fog=1 must slow;", 2, 1);
        }
    }

    // ---- the terms: faults

    @Says(promise = 0, text = "1 it cannot stand there, or is none (the end: how many bytes there are)")
    static void eachTokenWhereItCannotStand() {
        String[] right = {"if", "fog", "=", "1", "must", "slow", ";"};
        String[] all = {"if", "and", "must", "speed", "near", "fog", "night", "water", "slow", "sound", "light", "turn", "<", ">", "=", ";", "7",
            "other", "#"};
        String[] fitting = {" if ", " speed near fog night water ", " < > = ", " 7 ", " and must ", " slow sound light turn ", " ; "};
        StringBuilder ahead = new StringBuilder();
        for (int i = 0; i < right.length; i++) {
            for (String token : all) {
                if (!fitting[i].contains(" " + token + " ")) {
                    faults(ahead + token, ahead.length(), 1);
                }
            }
            ahead.append(right[i]).append(' ');
        }
        reads(ahead.toString(), 1);
        faults(ahead + "and", ahead.length(), 1);
        faults(ahead + ";", ahead.length(), 1);
    }

    @Says(promise = 0, text = "1 it cannot stand there, or is none (the end: how many bytes there are)")
    static void theEndWhereItCannotStand() {
        String[] parts = {"if", " ", "fog", "=", "1", "\n", "and", " ", "near", "<", "20", " ", "must", " ", "turn", " "};
        StringBuilder text = new StringBuilder();
        for (String part : parts) {
            text.append(part);
            faults(text.toString(), text.length(), 1);
            faults(RULE + text, 19 + text.length(), 1);
        }
        faults("if" + " ".repeat(398), 400, 1);
        faults("\n" + RULE + " if fog", 27, 1);
        reads(text + ";", 1);
    }

    @Says(promise = 0, text = "2 the 4th test of a RULE (its 'and')")
    static void fourTests() {
        reads("if fog=1 must slow;", 1);
        reads("if fog=1 and fog=1 must slow;", 1);
        reads(THREE + "must slow;", 1);
        faults(THREE + "and fog=1 must slow;", 29, 2);
        faults(THREE + "and", 29, 2);
        faults(THREE + "and and", 29, 2);
        faults(THREE + "fog", 29, 1);
        faults(RULE + THREE + "and fog=1 must slow;", 19 + 29, 2);
        reads(THREE + "must slow;" + THREE + "must slow;" + THREE + "must slow;", 3);
    }

    @Says(promise = 0, text = "3 the 11th RULE (its 'if')")
    static void elevenRules() {
        reads(RULE.repeat(9), 9);
        reads(RULE.repeat(10), 10);
        reads(RULE.repeat(10) + " \n", 10);
        faults(RULE.repeat(11), 190, 3);
        faults(RULE.repeat(10) + "\n\nif", 192, 3);
        faults(RULE.repeat(10) + "if if", 190, 3);
        faults(RULE.repeat(10) + "fog", 190, 1);
        faults(RULE.repeat(10) + ";", 190, 1);
        faults(RULE.repeat(20), 190, 3);
        reads((THREE + "must slow;").repeat(10), 10);
    }

    @Says(promise = 0, text = "the first TOKEN that has one (its first byte), of one TOKEN the least")
    static void theFirstFault() {
        faults("if fog=1 must;" + THREE + "and fog=1 must slow;", 13, 1);
        faults(THREE + "and fog=1 must must", 29, 2);
        faults(RULE.repeat(10) + "if and", 190, 3);
        faults("if fog=1 and fog=1 must # if", 24, 1);
        faults("   if fog = 123456 must slow;", 12, 1);
    }

    // ---- feed

    @Says(promise = 23, text = "The lowest n bytes of w (1 to 8), the highest of them first, come behind the tape: how many it has.")
    static void feedOfOneToEight() {
        long letters = 0x6162636465666768L;
        for (int n = 1; n <= 8; n++) {
            WreckCourt x = new WreckCourt();
            Checks.due("feed of " + n, x.feed(letters, n), n);
            Checks.due("count", x.count(8), n);
        }
        WreckCourt x = new WreckCourt();
        Checks.due("ifs", x.feed(0x6666666666006966L, 2), 2);
        Checks.due("behind it", x.feed(0x20666f673d31206dL, 8), 10);
        Checks.due("behind both", x.feed(-1L << 48 | 0x75737420736cL, 6), 16);
        Checks.due("the last", x.feed(0xffffffffff6f773bL, 3), 19);
        Checks.due("it is a rule", x.rules(), 1);
    }

    @Says(promise = 23, text = "The lowest n bytes of w (1 to 8), the highest of them first, come behind the tape: how many it has.")
    static void feedOfHighBytes() {
        // every byte is kept as it is: none of these is a gap, a letter or a figure
        WreckCourt x = new WreckCourt();
        x.feed(0x20ff20L, 3);
        Checks.due("255", x.rules(), FAULTED - 1);
        x.feed(0x2000L, 2);
        Checks.due("0", x.rules(), FAULTED - 1);
        x.feed(0x8a20a0L, 3);
        Checks.due("128 and 10", x.rules(), FAULTED);
        x.feed(Long.MIN_VALUE, 8);
        Checks.due("128 first", x.rules(), FAULTED);
    }

    @Says(promise = 23, text = "BAD: n")
    static void feedOfNoSize() {
        Night.SOME.refuses(BAD, x -> x.feed(0L, 0), x -> x.feed(0L, 9), x -> x.feed(0L, -1), x -> x.feed(-1L, MIN), x -> x.feed(-1L, MAX));
        Night.SOME.takes(4, x -> x.feed(0L, 1));
        Night.SOME.takes(11, x -> x.feed(0L, 8));
        Night.FULL.refuses(BAD, x -> x.feed(0L, 0), x -> x.feed(0L, 9));
    }

    @Says(promise = 23, text = "FULL: none comes.")
    static void tapeIsFull() {
        Night.FULL.refuses(FULL, x -> x.feed(0L, 1), x -> x.feed(0L, 8));
        for (int left = 1; left <= 8; left++) {
            WreckCourt x = new WreckCourt();
            Checks.feed(x, " ".repeat(400 - left));
            for (int n = left + 1; n <= 8; n++) {
                Checks.due(n + " into " + left, x.feed(0L, n), FULL);
                Checks.due("none came", x.count(8), 400 - left);
            }
            Checks.due(left + " into as many", x.feed(0x2020202020202020L, left), 400);
            Checks.due("one more", x.feed(0L, 1), FULL);
            Checks.due("nothing but gaps is on it", x.rules(), 0);
        }
    }

    // ---- rules

    @Says(promise = 24, text = "The tape, empty then, is read: how many RULES")
    static void tapeIsEmptyThen() {
        WreckCourt x = new WreckCourt();
        Checks.due("an empty one", x.rules(), 0);
        Checks.feed(x, RULE);
        Checks.due("one rule", x.rules(), 1);
        Checks.due("empty", x.count(8), 0);
        Checks.feed(x, "if");
        Checks.due("a fault", x.rules(), FAULTED - 2);
        Checks.due("empty, too", x.count(8), 0);
        Checks.due("fed anew from its beginning", x.feed(0x6966L, 2), 2);
        Checks.due("a fault again", x.rules(), FAULTED - 2);
        Checks.due("nothing is on it", x.rules(), 0);
        Checks.feed(x, " ".repeat(400));
        Checks.due("a full one", x.rules(), 0);
        Checks.due("has room again", x.feed(0x20L, 1), 1);
    }

    @Says(promise = 24, text = "they are these from now on")
    static void rulesFromNowOn() {
        WreckCourt x = withRules("if fog=0 must slow;if fog=0 must sound;if fog=0 must sound;");
        Checks.due("three", x.count(5), 3);
        Checks.due("the second", x.owes(0, 0, SOUND), 1);
        Checks.read(x, "if fog=0 must sound;");
        Checks.due("one", x.count(5), 1);
        Checks.due("the first", x.owes(0, 0, SOUND), 0);
        Checks.due("slow no more", x.owes(0, 0, SLOW), NONE);
        Checks.due("none of an empty tape", x.rules(), 0);
        Checks.due("none", x.count(5), 0);
        Checks.due("nothing is owed", x.owes(0, 0, SOUND), NONE);
        Checks.due("nothing is blamed", x.blame(0, 0), 0);
    }

    @Says(promise = 24, text = "-1000100 less the place of a FAULT: all stays.")
    static void allStaysBehindAFault() {
        WreckCourt x = withRules("if fog=0 must slow;if fog=0 and speed=0 must turn;");
        Checks.due("at the first byte", Checks.read(x, "!"), FAULTED);
        Checks.due("at the last byte", Checks.read(x, " ".repeat(399) + "!"), FAULTED - 399);
        Checks.due("at the end", Checks.read(x, "if" + " ".repeat(398)), FAULTED - 400);
        Checks.due("behind other rules", Checks.read(x, "if fog=0 must light;if fog=0 must turn;if fog=0 must turn;!"), FAULTED - 58);
        Checks.due("two still", x.count(5), 2);
        int[] due = {0, NONE, NONE, 1};
        for (int act = 0; act < 4; act++) {
            Checks.due("owes " + act, x.owes(0, 0, act), due[act]);
        }
        blameIs(x, 0, 480, 0, SLOW, 0);
    }

    // ---- fault

    @Says(promise = 25, text = "The number of the latest FAULT; 0 before one.")
    static void latestFault() {
        WreckCourt x = new WreckCourt();
        Checks.due("before one", x.fault(), 0);
        x.rules();
        Checks.due("an empty tape has none", x.fault(), 0);
        Checks.read(x, RULE);
        Checks.due("a rule has none", x.fault(), 0);
        Checks.read(x, RULE.repeat(11));
        Checks.due("3", x.fault(), 3);
        Checks.read(x, THREE + "and");
        Checks.due("2", x.fault(), 2);
        Checks.read(x, "x");
        Checks.due("1", x.fault(), 1);
        Checks.read(x, RULE.repeat(11));
        Checks.due("3 again", x.fault(), 3);
        Checks.read(x, RULE);
        x.rules();
        Checks.due("it stays the latest", x.fault(), 3);
        x.feed(0L, 9);
        Checks.due("a refused feed is none", x.fault(), 3);
    }

    // ---- done

    @Says(promise = 26, text = "A SHIP did an act: how many such there are.")
    static void doneFromTheFirstToTheLast() {
        WreckCourt x = withRules("if fog=0 must slow;if fog=0 must sound;if fog=0 must light;if fog=0 must turn;");
        x.ship(0, 0);
        for (int i = 1; i <= 40; i++) {
            Checks.due("done " + i, x.done(i % 2, i % 4, 6 * (i - 1), 6 * i), i);
            Checks.due("how many", x.count(7), i);
        }
        Checks.due("of ship 0", x.blame(0, 0), 960 - 120);
        Checks.due("of ship 1", x.blame(1, 0), 960 - 120);
    }

    @Says(promise = 26, text = "BAD: SHIP")
    static void doneByNoShip() {
        Night.SOME.refuses(BAD, x -> x.done(-1, 0, 0, 1), x -> x.done(3, 0, 0, 1), x -> x.done(MIN, 0, 0, 1), x -> x.done(MAX, 0, 0, 1));
        Night.NEW.refuses(BAD, x -> x.done(0, 0, 0, 1));
        Night.SOME.takes(3, x -> x.done(0, 0, 0, 1), x -> x.done(2, 0, 0, 1));
    }

    @Says(promise = 26, text = "act")
    static void doneOfNoAct() {
        Night.SOME.refuses(BAD, x -> x.done(0, -1, 0, 1), x -> x.done(0, 4, 0, 1), x -> x.done(0, MIN, 0, 1), x -> x.done(0, MAX, 0, 1));
        Night.SOME.takes(3, x -> x.done(0, 0, 0, 1), x -> x.done(0, 3, 0, 1));
    }

    @Says(promise = 26, text = "MINUTES (to 1 to 240, above from)")
    static void doneInNoMinutes() {
        Night.SOME.refuses(BAD, x -> x.done(0, 0, -1, 1), x -> x.done(0, 0, 240, 241), x -> x.done(0, 0, 240, 240), x -> x.done(0, 0, 0, 241),
            x -> x.done(0, 0, 0, 0), x -> x.done(0, 0, 5, 5), x -> x.done(0, 0, 6, 5), x -> x.done(0, 0, 239, 239), x -> x.done(0, 0, -1, 0),
            x -> x.done(0, 0, MIN, MAX), x -> x.done(0, 0, MAX, MIN), x -> x.done(0, 0, 0, MAX), x -> x.done(0, 0, 0, MIN), x -> x.done(0, 0, MIN, 1));
        Night.SOME.takes(3, x -> x.done(0, 0, 0, 1), x -> x.done(0, 0, 239, 240), x -> x.done(0, 0, 0, 240));
    }

    @Says(promise = 26, text = "FULL: 40.")
    static void doneIsFull() {
        Night.FULL.refuses(FULL, x -> x.done(0, 0, 0, 240), x -> x.done(3, 3, 239, 240));
        Night.FULL.refuses(BAD, x -> x.done(4, 0, 0, 1), x -> x.done(0, 4, 0, 1), x -> x.done(0, 0, 1, 1), x -> x.done(0, 0, 0, 241));
    }

    // ---- owes

    @Says(promise = 27, text = "The first RULE by which a SHIP OWES an act in a MINUTE; NONE: it does not.")
    static void owesByTheFirst() {
        WreckCourt x = withRules("if fog=1 must turn;if fog=0 must light;if fog=0 must turn;if speed=0 must turn;");
        Checks.due("the first that holds", x.owes(0, 0, TURN), 2);
        Checks.due("in the last minute", x.owes(0, 239, TURN), 2);
        Checks.due("another act", x.owes(0, 239, LIGHT), 1);
        Checks.due("no rule of it", x.owes(0, 0, SLOW), NONE);
        x.dark(0, 239, 240);
        Checks.due("in fog", x.owes(0, 239, TURN), 0);
        Checks.due("ahead of fog", x.owes(0, 238, TURN), 2);
        Checks.due("no light in fog", x.owes(0, 239, LIGHT), NONE);
        WreckCourt ten = withRules("if fog=1 must slow;".repeat(9) + "if fog=0 must slow;");
        Checks.due("the tenth", ten.owes(0, 0, SLOW), 9);
    }

    @Says(promise = 0, text = "if all tests of some RULE with that act hold")
    static void allTestsHold() {
        WreckCourt x = withRules("if fog=0 and night=0 and speed=0 must slow;if fog=1 and night=0 and speed=0 must sound;"
            + "if fog=0 and night=1 and speed=0 must light;if fog=0 and night=0 and speed=1 must turn;");
        int[] due = {0, NONE, NONE, NONE};
        for (int act = 0; act < 4; act++) {
            Checks.due("owes " + act, x.owes(0, 0, act), due[act]);
        }
    }

    @Says(promise = 0, text = "( '<' | '>' | '=' ) NUMBER")
    static void signsAtTheEdge() {
        WreckCourt x = withRules("");
        x.order(0, 0, 0, 10);
        int[] numbers = {9, 10, 11};
        int[] below = {NONE, NONE, 0};
        int[] above = {1, NONE, NONE};
        int[] same = {NONE, 2, NONE};
        for (int i = 0; i < numbers.length; i++) {
            String n = String.format("%04d", numbers[i]);
            Checks.read(x, "if speed<" + numbers[i] + " must slow;if speed>" + n + " must sound;if speed=" + n + " must light;");
            Checks.due("10 < " + numbers[i], x.owes(0, 0, SLOW), below[i]);
            Checks.due("10 > " + numbers[i], x.owes(0, 0, SOUND), above[i]);
            Checks.due("10 = " + numbers[i], x.owes(0, 0, LIGHT), same[i]);
        }
    }

    @Says(promise = 0, text = "text: { 'if' test { 'and' test } 'must' act ';' }")
    static void eachWordOfARule() {
        String[] subjects = {"speed", "near", "fog", "night", "water"};
        String[] acts = {"slow", "sound", "light", "turn"};
        int[] values = {7, 22, 0, 1, 5};
        WreckCourt x = new WreckCourt();
        x.ship(0, 0);
        x.ship(7, 21);
        x.order(0, 0, 4, 7);
        x.order(1, 0, 4, 7);
        x.dark(1, 0, 240);
        x.hole(0, 0, 5);
        for (int i = 0; i < subjects.length; i++) {
            int act = i % 4;
            Checks.due("one rule", Checks.read(x, "if " + subjects[i] + "=" + values[i] + " must " + acts[act] + ";"), 1);
            for (int other = 0; other < 4; other++) {
                Checks.due(subjects[i] + " in minute 1, act " + other, x.owes(0, 1, other), other == act ? 0 : NONE);
            }
        }
    }

    @Says(promise = 0, text = "Of a SHIP in a MINUTE: its speed; NEAR; FOG, NIGHT (1, 0); all WATER at that MINUTE (of SHIPS 1 to 3: 0).")
    static void whatRulesLookAt() {
        WreckCourt x = new WreckCourt();
        for (int i = 0; i < 4; i++) {
            x.ship(400 * i, 0);
        }
        x.order(1, 239, 0, 50);
        x.dark(1, 100, 239);
        x.hole(0, 0, 1);
        x.hole(5, 0, 1);
        Checks.read(x, "if speed=50 must slow;if near=400 must sound;if near=9999 must sound;if night=1 must light;if water=478 must turn;if water=0 must turn;");
        Checks.due("speed ahead", x.owes(1, 238, SLOW), NONE);
        Checks.due("speed in its minute", x.owes(1, 239, SLOW), 0);
        Checks.due("near", x.owes(3, 239, SOUND), 1);
        Checks.due("night at its end", x.owes(2, 238, LIGHT), 3);
        Checks.due("behind night", x.owes(2, 239, LIGHT), NONE);
        Checks.due("water at the minute", x.owes(0, 239, TURN), 4);
        Checks.due("water a minute ahead", x.owes(0, 238, TURN), NONE);
        Checks.due("no water at first", x.owes(0, 0, TURN), 5);
        for (int ship = 1; ship <= 3; ship++) {
            Checks.due("no water of ship " + ship, x.owes(ship, 239, TURN), 5);
        }
        x.dark(0, 0, 1);
        Checks.due("none near in fog", x.owes(0, 0, SOUND), 2);
    }

    @Says(promise = 0, text = "Of a SHIP in a MINUTE: its speed; NEAR")
    static void whatRulesLookAtOfEachShip() {
        WreckCourt x = new WreckCourt();
        x.ship(0, 0);
        x.ship(500, 0);
        x.ship(500, 700);
        x.order(1, 0, 12, 10);
        x.order(2, 0, 4, 20);
        Checks.read(x, "if near=490 must slow;if near=700 must sound;if speed=20 must light;if speed=10 must turn;");
        int[][] inFirst = {{NONE, NONE, NONE, NONE}, {NONE, NONE, NONE, 3}, {NONE, 1, 2, NONE}};
        int[][] inNext = {{0, NONE, NONE, NONE}, {0, NONE, NONE, 3}, {NONE, 1, 2, NONE}};
        for (int ship = 0; ship < 3; ship++) {
            for (int act = 0; act < 4; act++) {
                Checks.due("ship " + ship + " owes " + act + " in 0", x.owes(ship, 0, act), inFirst[ship][act]);
                Checks.due("ship " + ship + " owes " + act + " in 1", x.owes(ship, 1, act), inNext[ship][act]);
            }
        }
        // 0 and 1 are 490 apart at 1 and at 99, 700 at 120; 1 and 2 are 700 apart at 0 and, cut, at 1
        blameIs(x, 0, 3, 1, SLOW, 0);
        blameIs(x, 1, 243, 0, TURN, 3);
        blameIs(x, 2, 242, 0, SOUND, 1);
    }

    @Says(promise = 27, text = "BAD.")
    static void owesOfNothing() {
        Night.SOME.refuses(BAD, x -> x.owes(-1, 0, 0), x -> x.owes(3, 0, 0), x -> x.owes(MIN, 0, 0), x -> x.owes(MAX, 0, 0));
        Night.SOME.refuses(BAD, x -> x.owes(0, -1, 0), x -> x.owes(0, 240, 0), x -> x.owes(0, MIN, 0), x -> x.owes(0, MAX, 0));
        Night.SOME.refuses(BAD, x -> x.owes(0, 0, -1), x -> x.owes(0, 0, 4), x -> x.owes(0, 0, MIN), x -> x.owes(0, 0, MAX));
        Night.NEW.refuses(BAD, x -> x.owes(0, 0, 0));
        Night.FULL.refuses(BAD, x -> x.owes(4, 0, 0));
        Night.SOME.takes(NONE, x -> x.owes(0, 0, 0), x -> x.owes(2, 239, 0), x -> x.owes(2, 239, 3));
    }

    // ---- blame

    @Says(promise = 28, text = "BLAME of a SHIP: how many (what = 0)")
    static void blameOfNoneAndAll() {
        WreckCourt x = withRules("");
        blameIs(x, 0, 0, NONE, NONE, NONE);
        Checks.read(x, "if fog=1 must turn;");
        blameIs(x, 0, 0, NONE, NONE, NONE);
        Checks.read(x, "if fog=0 must slow;if fog=0 must sound;if fog=0 must light;if fog=0 must turn;if fog=0 must turn;");
        blameIs(x, 0, 960, 0, SLOW, 0);
        for (int act = 0; act < 4; act++) {
            x.done(0, act, 0, 240);
        }
        blameIs(x, 0, 0, NONE, NONE, NONE);
    }

    @Says(promise = 28, text = "of THE FIRST the MINUTE (1), the act (2), the RULE (3); NONE (of 1 to 3).")
    static void blameOfTheFirst() {
        WreckCourt x = withRules("if night=1 must turn;if fog=1 must light;if fog=1 must sound;if night=1 must sound;");
        x.dark(1, 239, 240);
        blameIs(x, 0, 2, 239, SOUND, 3);
        x.dark(0, 239, 240);
        blameIs(x, 0, 3, 239, SOUND, 2);
        x.dark(1, 200, 201);
        blameIs(x, 0, 5, 200, SOUND, 3);
        x.done(0, SOUND, 200, 201);
        blameIs(x, 0, 4, 200, TURN, 0);
        x.done(0, TURN, 199, 201);
        blameIs(x, 0, 3, 239, SOUND, 2);
        x.done(0, SOUND, 239, 240);
        x.done(0, TURN, 239, 240);
        blameIs(x, 0, 1, 239, LIGHT, 1);
        x.done(0, LIGHT, 239, 240);
        blameIs(x, 0, 0, NONE, NONE, NONE);
    }

    @Says(promise = 0, text = "THE FIRST: of the least MINUTE, then the least act; its RULE: the first one that holds.")
    static void leastMinuteThenLeastAct() {
        WreckCourt x = withRules("if fog=1 must slow;if speed=0 must turn;if speed=0 must light;if speed<1 must light;");
        x.dark(0, 1, 2);
        blameIs(x, 0, 481, 0, LIGHT, 2);
        x.done(0, LIGHT, 0, 1);
        blameIs(x, 0, 480, 0, TURN, 1);
        x.done(0, TURN, 0, 1);
        blameIs(x, 0, 479, 1, SLOW, 0);
        x.order(0, 0, 0, 1);
        blameIs(x, 0, 1, 1, SLOW, 0);
    }

    @Says(promise = 0, text = "a SHIP did an act from a MINUTE to another one (not among them)")
    static void doneFromOneToAnother() {
        WreckCourt x = withRules("if fog=0 must slow;");
        x.ship(0, 0);
        x.done(0, SLOW, 0, 239);
        blameIs(x, 0, 1, 239, SLOW, 0);
        blameIs(x, 1, 240, 0, SLOW, 0);
        x.done(1, SLOW, 1, 240);
        blameIs(x, 1, 1, 0, SLOW, 0);
        x.done(1, SOUND, 0, 240);
        blameIs(x, 1, 1, 0, SLOW, 0);
        x.done(0, SLOW, 239, 240);
        blameIs(x, 0, 0, NONE, NONE, NONE);
    }

    @Says(promise = 28, text = "BAD.")
    static void blameOfNothing() {
        Night.SOME.refuses(BAD, x -> x.blame(-1, 0), x -> x.blame(3, 0), x -> x.blame(MIN, 0), x -> x.blame(MAX, 0));
        Night.SOME.refuses(BAD, x -> x.blame(0, -1), x -> x.blame(0, 4), x -> x.blame(0, MIN), x -> x.blame(0, MAX));
        Night.NEW.refuses(BAD, x -> x.blame(0, 0), x -> x.blame(0, 1));
        Night.FULL.refuses(BAD, x -> x.blame(4, 0));
    }
}
