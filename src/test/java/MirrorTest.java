import java.util.ArrayList;
import java.util.List;
import java.util.Random;

/** Long runs of mixed calls, the same on every machine, answered by the class and by the slow model alike. */
public final class MirrorTest {
    /** A text takes up to 51 calls, and an object is good for 512. */
    private static final int CALLS = 460;
    private static final String[] SETTERS = {"sheet", "set", "set", "copy", "drop", "ship", "order", "order", "tide", "tide",
        "dark", "hull", "door", "hole", "fact", "fact", "withdraw", "done", "text"};
    private static final String[] LOOKS = {"where", "where", "nearest", "water", "sinks", "other", "quarrel", "court", "court",
        "sure", "rules", "fault", "owes", "blame", "kind", "as", "ask", "trace", "count", "status", "feed"};
    private static final String[] PIECES = {"if", "and", "must", "speed", "near", "fog", "night", "water", "slow", "sound",
        "light", "turn", "<", ">", "=", ";", "0", "1", "20", "300", "9999", "12345", "x", "\t", "abcdefg"};

    private final Random random;
    private final Pair pair = new Pair();

    private MirrorTest(int seed) {
        random = new Random(seed);
    }

    public static void main(String[] args) throws Exception {
        int runs = args.length > 0 ? Integer.parseInt(args[0]) : 60;
        for (int seed = 0; seed < runs; seed++) {
            Checks.due("run " + seed, new MirrorTest(seed).differences(), 0);
        }
        Checks.end();
    }

    private int differences() throws Exception {
        while (pair.callsMade() < CALLS && pair.differences() == 0) {
            boolean early = pair.callsMade() < CALLS / 2 ? random.nextInt(10) < 7 : random.nextInt(10) < 3;
            String[] names = early ? SETTERS : LOOKS;
            String name = names[random.nextInt(names.length)];
            if (name.equals("text")) {
                pair.feed(text());
                pair.call("rules", row());
            } else if (!isDear(name) || random.nextInt(3) == 0) {
                pair.call(name, arguments(name));
            }
        }
        return pair.differences();
    }

    /** The model is too slow for these in every row. */
    private static boolean isDear(String name) {
        return name.equals("blame") || name.equals("court") || name.equals("sure") || name.equals("nearest");
    }

    private int pick(int least, int most) {
        int dice = random.nextInt(60);
        if (dice == 0) {
            return least - 1;
        }
        if (dice == 1) {
            return most + 1;
        }
        if (dice == 2) {
            return random.nextInt();
        }
        return dice < 6 ? least : dice < 9 ? most : least + random.nextInt(most - least + 1);
    }

    private int small() {
        return pick(-400, 400);
    }

    private int span(int from) {
        return random.nextInt(8) == 0 ? pick(1, 240) : from + 1 + random.nextInt(40);
    }

    private Object[] arguments(String name) {
        int minute = pick(0, 239);
        int fact = pick(0, 11);
        switch (name) {
            case "sheet": return row(pick(0, 3), pick(0, 2), pick(0, 120));
            case "set": return row(pick(0, 3), pick(0, 60), random.nextInt(4) == 0 ? random.nextInt() : pick(-20, 20));
            case "copy": return row(pick(0, 3), pick(0, 60), pick(0, 3), pick(0, 60), pick(0, 60));
            case "drop": return row(pick(0, 7));
            case "ship": return row(small(), small());
            case "order": return row(pick(0, 3), minute, pick(0, 15), pick(0, 50));
            case "tide": return row(minute, pick(0, 3), pick(0, 20), pick(1, 60));
            case "dark": return row(pick(0, 1), minute, span(minute));
            case "where": return row(pick(0, 3), pick(0, 240), pick(0, 4));
            case "nearest": return row(pick(0, 3), pick(0, 3), pick(0, 1));
            case "hull": return hullRow();
            case "door": return row(pick(0, 4), minute, pick(0, 1));
            case "hole": return row(pick(0, 5), minute, pick(1, 20));
            case "water": return row(random.nextBoolean() ? WreckCourt.NONE : pick(0, 5), pick(0, 240));
            case "other": return otherRow();
            case "fact": return row(pick(0, 3), pick(0, 1), pick(0, 20), small(), small(), pick(0, 80), pick(0, 2), pick(0, 9));
            case "withdraw": return row(fact, pick(0, 12));
            case "quarrel": return row(fact, pick(0, 11), pick(-3, 3), pick(-3, 3), pick(-3, 3));
            case "court": return row(pick(0, 12), pick(0, 7));
            case "sure": return row(fact, pick(0, 12));
            case "feed": return new Object[] {random.nextLong(), pick(1, 8)};
            case "done": return row(pick(0, 3), pick(0, 3), minute, span(minute));
            case "owes": return row(pick(0, 3), minute, pick(0, 3));
            case "blame": return row(pick(0, 3), pick(0, 3));
            case "kind": return row(fact);
            case "as": return row(fact, pick(0, 4));
            case "ask": return row(fact, pick(0, 1));
            case "trace": return row(pick(0, 6));
            case "count": return row(pick(0, 8));
            default: return row();
        }
    }

    private Object[] hullRow() {
        int what = pick(0, 7);
        return row(what, what == 6 ? pick(0, 30) : what == 7 ? pick(1, 600) : pick(1, 300));
    }

    private Object[] otherRow() {
        int thing = pick(0, 3);
        return row(thing, thing < 2 ? pick(0, 4) : thing == 2 ? pick(0, 100) : pick(0, 9));
    }

    private static Object[] row(int... numbers) {
        Object[] row = new Object[numbers.length];
        for (int i = 0; i < row.length; i++) {
            row[i] = numbers[i];
        }
        return row;
    }

    private String text() {
        List<String> tokens = new ArrayList<>();
        int rules = random.nextInt(6) == 0 ? 8 + random.nextInt(4) : 1 + random.nextInt(4);
        for (int i = 0; i < rules; i++) {
            int tests = random.nextInt(20) == 0 ? 4 : 1 + random.nextInt(3);
            for (int k = 0; k < tests; k++) {
                tokens.addAll(List.of(k == 0 ? "if" : "and", PIECES[3 + random.nextInt(5)], PIECES[12 + random.nextInt(3)],
                    PIECES[16 + random.nextInt(5)]));
            }
            tokens.addAll(List.of("must", PIECES[8 + random.nextInt(4)], ";"));
        }
        if (random.nextInt(3) == 0) {
            tokens.set(random.nextInt(tokens.size()), PIECES[random.nextInt(PIECES.length)]);
        }
        int cut = random.nextInt(8) == 0 ? random.nextInt(tokens.size()) : tokens.size();
        return String.join(random.nextInt(12) == 0 ? "" : random.nextBoolean() ? " " : "\n", tokens.subList(0, cut));
    }
}
