/** Promises 23 to 28. */
public final class RulesTest {
    private static final int NONE = WreckCourt.NONE, FAULTED = -1000100;
    private static final int MIN = Integer.MIN_VALUE, MAX = Integer.MAX_VALUE;
    private static final String RULE = "if fog=1 must slow;";

    public static void main(String[] args) {
        feed();
        tokens();
        faults();
        limits();
        rules();
        done();
        owes();
        signs();
        blame();
        Checks.end();
    }

    private static void feed() {
        WreckCourt x = new WreckCourt();
        Checks.bad("feed", x.feed(0L, 0), x.feed(0L, 9), x.feed(0L, -1), x.feed(-1L, MAX), x.feed(0L, MIN));
        Checks.due("highest first", x.feed(0x1122334455006966L, 2), 2);
        Checks.due("the bytes are 'if'", x.rules(), FAULTED - 2);
        Checks.due("empty then", x.count(8), 0);
        for (int i = 1; i <= 49; i++) {
            Checks.due("feed " + i, x.feed(0x2020202020202020L, 8), 8 * i);
        }
        x.feed(0x20, 1);
        Checks.due("would be 401", x.feed(0L, 8), WreckCourt.FULL);
        Checks.due("none came", x.count(8), 393);
        Checks.due("up to 400", x.feed(0x0a0a0a0a0a0a0aL, 7), 400);
        Checks.due("one more", x.feed(0x20, 1), WreckCourt.FULL);
        Checks.due("BAD ahead of FULL", x.feed(0x20, 9), WreckCourt.BAD);
        Checks.due("spaces alone are no rules", x.rules(), 0);
        Checks.due("and empty", x.count(8), 0);
    }

    private static void reads(String text, int want) {
        Checks.due("'" + text + "'", Checks.read(new WreckCourt(), text), want);
    }

    private static void tokens() {
        reads("", 0);
        reads("  \n ", 0);
        reads(RULE, 1);
        reads(RULE + RULE, 2);
        reads("\nif\nspeed<0\nand  near > 9999and water=0007must\nsound ; \n", 1);
        reads("if night=1must turn;if fog=0must light;", 2);
        reads("if fog=12345 must slow;", FAULTED - 7);
        reads("if fog=00001 must slow;", FAULTED - 7);
        reads("iffog=1 must slow;", FAULTED);
        reads("if fog=1 mustslow;", FAULTED - 9);
        reads("if speedy=1 must slow;", FAULTED - 3);
        reads("if speedspeed=1 must slow;", FAULTED - 3);
        reads("if fog=1 must slow ;x", FAULTED - 20);
        reads("IF fog=1 must slow;", FAULTED);
        reads("if\tfog=1 must slow;", FAULTED - 2);
        reads("if fog=1\rmust slow;", FAULTED - 8);
        reads("if fog=1 must slow;" + (char) 0, FAULTED - 19);
        reads("if fog=1 must slow;" + (char) 233, FAULTED - 19);
        reads("if fog=-1 must slow;", FAULTED - 7);
        reads("if fog==1 must slow;", FAULTED - 7);
        reads("if fog`1 must slow;", FAULTED - 6);
        reads("if fog=1{must slow;", FAULTED - 8);
        reads("if fog=1/must slow;", FAULTED - 8);
        reads("if fog=1:must slow;", FAULTED - 8);
        reads("if fog=" + "1".repeat(393), FAULTED - 7);
        reads("z".repeat(400), FAULTED);
        reads("if" + " ".repeat(398), FAULTED - 400);
    }

    private static void faults() {
        String[] parts = {"if", " ", "fog", " ", "=", " ", "1", " ", "must", " ", "slow", " ", ";"};
        StringBuilder text = new StringBuilder();
        for (int i = 0; i < parts.length; i++) {
            if (i > 0) {
                reads(text.toString(), FAULTED - text.length());
            }
            if (i % 2 == 0) {
                // none of these can stand there: another sign, a name and a number
                int place = text.length();
                reads(text + "<<", FAULTED - place - (parts[i].equals("=") ? 1 : 0));
                reads(text + "turning", FAULTED - place);
                reads(text + (parts[i].equals("1") ? ";" : "7"), FAULTED - place);
            }
            text.append(parts[i]);
        }
        reads(text.toString(), 1);
        reads("if fog=1 and if", FAULTED - 13);
        reads("if fog=1 and slow=1 must slow;", FAULTED - 13);
        reads("if fog=1 must fog;", FAULTED - 14);
        reads("if fog=1 must slow and", FAULTED - 19);
        reads("must slow;", FAULTED);
        reads("and fog=1 must slow;", FAULTED);
        reads("if fog=1, must slow;", FAULTED - 8);
    }

    private static void limits() {
        String three = "if fog=1 and fog=1 and fog=1 ";
        WreckCourt x = new WreckCourt();
        Checks.due("three tests", Checks.read(x, three + "must slow;"), 1);
        Checks.due("no fault yet", x.fault(), 0);
        Checks.due("the 4th", Checks.read(x, three + "and fog=1 must slow;"), FAULTED - 29);
        Checks.due("its number", x.fault(), 2);
        Checks.due("the 4th, with no test", Checks.read(x, three + "and"), FAULTED - 29);
        Checks.due("still its number", x.fault(), 2);
        Checks.due("ten rules", Checks.read(x, RULE.repeat(10)), 10);
        Checks.due("a fault stays the latest", x.fault(), 2);
        Checks.due("the 11th", Checks.read(x, RULE.repeat(10) + " if"), FAULTED - 191);
        Checks.due("its number is 3", x.fault(), 3);
        Checks.due("what is no 'if' there", Checks.read(x, RULE.repeat(10) + " fog"), FAULTED - 191);
        Checks.due("cannot stand there", x.fault(), 1);
        Checks.due("the first fault", Checks.read(x, "if fog=1 must;" + three + "and fog=1 must slow;"), FAULTED - 13);
        Checks.due("rules that stayed", x.count(5), 10);
    }

    private static void rules() {
        WreckCourt x = new WreckCourt();
        x.ship(0, 0);
        Checks.due("two", Checks.read(x, "if speed=0 must light;if speed=0 must turn;"), 2);
        Checks.due("they hold", x.owes(0, 0, 3), 1);
        Checks.due("a fault", Checks.read(x, "if speed=0 must turn;if speed=0 must go;"), FAULTED - 37);
        Checks.due("all stays", x.owes(0, 0, 3), 1);
        Checks.due("both of them", x.count(5), 2);
        Checks.due("the tape does not", x.count(8), 0);
        Checks.due("others in their place", Checks.read(x, "if speed=0 must turn;"), 1);
        Checks.due("the first now", x.owes(0, 0, 3), 0);
        Checks.due("light no more", x.owes(0, 0, 2), NONE);
        Checks.due("an empty tape", x.rules(), 0);
        Checks.due("no rules", x.count(5), 0);
        Checks.due("nothing is owed", x.owes(0, 0, 3), NONE);
    }

    private static void done() {
        WreckCourt x = new WreckCourt();
        x.ship(0, 0);
        Checks.bad("done", x.done(1, 0, 0, 1), x.done(-1, 0, 0, 1), x.done(0, -1, 0, 1), x.done(0, 4, 0, 1),
            x.done(0, 0, -1, 1), x.done(0, 0, 240, 241), x.done(0, 0, 3, 3), x.done(0, 0, 0, 241), x.done(0, 0, 5, 4),
            x.done(MAX, MIN, 0, 1), x.done(0, 0, MIN, MAX));
        for (int i = 1; i <= 40; i++) {
            Checks.due("done " + i, x.done(0, i % 4, 239, 240), i);
        }
        Checks.due("41st", x.done(0, 0, 0, 1), WreckCourt.FULL);
        Checks.due("BAD ahead of FULL", x.done(0, 0, 1, 1), WreckCourt.BAD);
        Checks.due("how many", x.count(7), 40);
        Checks.read(x, "if fog=0 must slow;");
        Checks.due("all but the last minute is left undone", x.blame(0, 0), 239);
    }

    private static void owes() {
        WreckCourt x = new WreckCourt();
        x.ship(0, 0);
        x.ship(0, 300);
        x.order(0, 5, 4, 12);
        x.dark(0, 10, 20);
        x.dark(1, 15, 30);
        x.hole(0, 0, 1);
        Checks.read(x, "if speed=12 must slow; if near=300 must sound; if fog=1 must light; if night=1 must light;"
            + "if water=7 must turn; if water=0 and night=1 must turn; if near=9999 and fog=1 must sound;");
        Checks.due("speed ahead of the order", x.owes(0, 4, 0), NONE);
        Checks.due("speed", x.owes(0, 5, 0), 0);
        Checks.due("speed of the other", x.owes(1, 5, 0), NONE);
        Checks.due("near", x.owes(0, 5, 1), 1);
        Checks.due("near, farther", x.owes(0, 9, 1), NONE);
        Checks.due("unseen in fog", x.owes(0, 10, 1), 6);
        Checks.due("fog", x.owes(0, 10, 2), 2);
        Checks.due("fog is first", x.owes(0, 15, 2), 2);
        Checks.due("night", x.owes(0, 20, 2), 3);
        Checks.due("behind it", x.owes(0, 30, 2), NONE);
        Checks.due("water at 7", x.owes(0, 7, 3), 4);
        Checks.due("water at 8", x.owes(0, 8, 3), NONE);
        Checks.due("water of another ship is 0", x.owes(1, 15, 3), 5);
        Checks.due("no water of another ship", x.owes(1, 7, 3), NONE);
        Checks.bad("owes", x.owes(-1, 0, 0), x.owes(2, 0, 0), x.owes(0, -1, 0), x.owes(0, 240, 0), x.owes(0, 0, -1),
            x.owes(0, 0, 4), x.owes(MIN, MAX, 0));
    }

    private static void signs() {
        WreckCourt x = new WreckCourt();
        x.ship(0, 0);
        x.order(0, 0, 0, 10);
        Checks.read(x, "if speed<10 must slow;if speed<11 must sound;if speed>10 must light;if speed>9 must turn;");
        int[] first = {NONE, 1, NONE, 3};
        for (int act = 0; act < 4; act++) {
            Checks.due("below, above: act " + act, x.owes(0, 0, act), first[act]);
        }
        Checks.read(x, "if speed=9 must slow;if speed=10 must sound;if speed=11 must light;if speed=0010 and fog=0 and fog=1 must turn;");
        first[3] = NONE;
        for (int act = 0; act < 4; act++) {
            Checks.due("equal, all tests: act " + act, x.owes(0, 0, act), first[act]);
        }
    }

    private static void blame() {
        WreckCourt x = new WreckCourt();
        x.ship(0, 0);
        x.ship(5000, 5000);
        x.dark(0, 100, 110);
        x.dark(1, 105, 120);
        Checks.due("no rules", x.blame(0, 0), 0);
        Checks.due("no first", x.blame(0, 1) + x.blame(0, 2) + x.blame(0, 3), 3 * NONE);
        Checks.read(x, "if speed=0 must light;");
        blamed(x, 240, 0, 2, 0);
        Checks.read(x, "if night=1 must slow;if fog=1 must turn;if fog=1 must slow;if fog=1 must sound;");
        blamed(x, 20 + 10 + 10, 100, 0, 2);
        x.done(0, 0, 100, 106);
        blamed(x, 14 + 10 + 10, 100, 1, 3);
        x.done(0, 1, 99, 101);
        x.done(0, 3, 0, 240);
        blamed(x, 14 + 9, 101, 1, 3);
        x.done(1, 1, 0, 240);
        blamed(x, 14 + 9, 101, 1, 3);
        x.done(0, 1, 0, 240);
        blamed(x, 14, 106, 0, 0);
        x.done(0, 0, 106, 120);
        blamed(x, 0, NONE, NONE, NONE);
        Checks.due("the other ship", x.blame(1, 0), 20 + 10);
        Checks.bad("blame", x.blame(-1, 0), x.blame(2, 0), x.blame(0, -1), x.blame(0, 4), x.blame(MAX, MIN));
    }

    private static void blamed(WreckCourt x, int... answers) {
        for (int what = 0; what < answers.length; what++) {
            Checks.due("blame " + what, x.blame(0, what), answers[what]);
        }
    }
}
