import java.util.ArrayList;
import java.util.List;

/**
 * Every call at the edges of its numbers, two of them at a time, and every look at once behind every change: on a
 * court that holds something of everything, against the slow model.
 */
public final class GridTest {
    private static final int MIN = Integer.MIN_VALUE, MAX = Integer.MAX_VALUE;
    private static final String SOME = "sheet 0 0 4;set 0 0 1;set 0 1 -2;set 0 2 3;set 0 3 20;sheet 1 2 6;set 1 0 5;set 1 3 21;sheet 2 1 0;"
        + "sheet 3 2 120;ship 0 0;ship 300 0;ship 0 -700;order 0 10 4 20;order 0 60 7 33;order 1 0 12 5;order 2 100 1 50;tide 30 0 0 2;"
        + "dark 0 100 130;dark 1 80 200;hull 6 2;hull 7 120;hull 2 50;door 0 20 0;door 3 0 0;door 0 90 1;hole 0 5 3;hole 3 50 4;"
        + "fact 0 0 20 0 0 11 0 1;fact 1 1 21 300 0 12 1 2;fact 2 0 22 600 0 13 2 3;fact 3 1 23 900 0 14 0 4;fact 1 0 24 1200 0 15 1 5;"
        + "fact 2 1 25 1500 0 16 2 6;withdraw 4 6;withdraw 5 9;done 0 0 100 110;done 1 1 80 90";
    private static final String TEXT = "if fog=1 must slow;if near<500 and night=1 must sound;if water>9 must turn;";

    /** A call, and of each of its numbers the least, the most and one between; edges that move with the state stand here, too. */
    private static final String[] CALLS = {"sheet 0 7 3 0 2 1 0 120 5", "set 0 3 1 0 4 1 -128 127 5", "copy 0 3 1 0 6 1 0 3 3 0 6 2 0 6 2", "drop 0 3 1",
        "ship -10000 10000 5 -10000 10000 5", "order 0 2 1 0 239 50 0 15 3 0 50 20", "tide 0 239 20 0 3 0 0 4 0 1 60 1", "dark 0 1 0 0 239 50 1 240 60",
        "where 0 2 1 0 240 120 0 4 1", "nearest 0 2 1 0 2 0 0 1 0", "hull 0 7 2 1 1000 50", "hull 6 6 6 0 100 50", "hull 7 7 7 1 6000 50",
        "door 0 4 0 0 239 50 0 1 0", "hole 0 5 2 0 239 50 1 100 5", "water 0 5 2 0 240 120", "water -1000000 -1000000 -1000000 0 240 120",
        "other 0 3 1 0 4 1", "other 2 2 2 0 100 5", "other 3 3 3 0 1 0", "fact 0 3 1 0 3 1 0 239 50 -10000 10000 5 -10000 10000 5 0 2000 9 0 2 1 0 99 9",
        "withdraw 0 5 1 1 99 9", "withdraw 2 2 2 3 99 9", "quarrel 0 5 1 0 5 2 -3 3 1 -3 3 1 -3 3 1", "court 0 99 3 0 7 1", "sure 0 5 1 0 99 3",
        "feed 0 100 10 1 8 3", "done 0 2 1 0 3 1 0 239 50 1 240 60", "owes 0 2 1 0 239 120 0 3 1", "blame 0 2 1 0 3 1", "kind 0 5 1", "as 0 5 1 0 4 1",
        "ask 0 5 1 0 1 0", "trace 0 2 1", "count 0 8 1"};

    private static final String[] CHANGES = {"order 0 0 9 31", "tide 0 0 0 2", "dark 0 0 240", "dark 1 0 240", "ship 50 50", "hull 0 5", "hull 6 0", "hull 6 9",
        "hull 7 20", "door 0 0 0", "door 4 0 0", "hole 1 0 50", "fact 3 0 22 5 5 0 0 0", "withdraw 1 2", "withdraw 2 9", "done 0 0 0 240", "rules", "set 0 0 7",
        "sheet 0 2 4", "copy 0 0 0 1 3", "drop 0", "ask 3 1", "as 1 2"};
    private static final String[] LOOKS = {"where 0 1 0", "where 0 1 1", "where 0 120 0", "where 0 240 1", "where 0 0 2", "where 0 0 3", "where 0 0 4", "where 1 120 4",
        "nearest 0 1 0", "nearest 0 1 1", "water 0 100", "water -1000000 240", "sinks", "other 0 0", "other 1 3", "other 2 5", "other 3 0", "court 5 0", "court 5 1",
        "court 5 3", "court 2 2", "court 9 4", "court 9 5", "court 9 6", "court 9 7", "sure 0 5", "sure 2 9", "quarrel 0 2 1 -1 3", "owes 0 120 0", "owes 1 120 1",
        "owes 0 239 3", "blame 0 0", "blame 1 1", "kind 1", "as 2 2", "ask 1 0", "ask 2 1", "trace 0", "count 4", "count 7", "status", "fault", "tide 0 0 0 1"};

    public static void main(String[] args) throws Exception {
        for (String call : CALLS) {
            edgesOf(call);
        }
        for (String change : CHANGES) {
            looksBehind(change);
        }
        Checks.end();
    }

    private static Pair made() throws Exception {
        Pair pair = new Pair();
        pair.calls(SOME);
        pair.feed(TEXT);
        pair.calls("rules;ask 2 0;as 0 4");
        pair.feed("if ");
        return pair;
    }

    private static void edgesOf(String row) throws Exception {
        String[] words = row.split(" ");
        int n = (words.length - 1) / 3;
        int[] usual = new int[n];
        List<int[]> edges = new ArrayList<>();
        for (int i = 0; i < n; i++) {
            int least = Integer.parseInt(words[1 + 3 * i]);
            int most = Integer.parseInt(words[2 + 3 * i]);
            usual[i] = Integer.parseInt(words[3 + 3 * i]);
            edges.add(new int[] {usual[i], least - 1, least, most, most + 1, MIN, MAX});
        }
        for (int a = 0; a < n; a++) {
            for (int b = n == 1 ? 0 : a + 1; b < n; b++) {
                edgesOfTwo(words[0], usual, a, b, edges);
            }
        }
    }

    private static void edgesOfTwo(String name, int[] usual, int a, int b, List<int[]> edges) throws Exception {
        for (int first : edges.get(a)) {
            for (int second : edges.get(b)) {
                int[] numbers = usual.clone();
                numbers[a] = first;
                numbers[b] = second;
                Pair pair = made();
                pair.call(name, numbers);
                pair.calls("status;count 0;count 2;count 3;count 8;trace 0");
                Checks.due(name + " at its edges", pair.differences(), 0);
            }
        }
    }

    /** The look is made ahead of the change, too, so that nothing kept from then may be told again. */
    private static void looksBehind(String change) throws Exception {
        for (String look : LOOKS) {
            Pair pair = made();
            pair.calls(look);
            pair.calls(change);
            pair.calls(look);
            Checks.due(look + " behind " + change, pair.differences(), 0);
            Pair fresh = made();
            fresh.calls(change);
            fresh.calls(look);
            Checks.due(look + " first behind " + change, fresh.differences(), 0);
        }
    }
}
