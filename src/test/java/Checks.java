import java.nio.charset.StandardCharsets;

/** What all tests of the project share: counting wrong answers, and feeding a text to the tape. */
final class Checks {
    static final int NULL = -1000011, PLACE = -1000012, KIND = -1000013, SIZE = -1000014, STORE = -1000015;
    private static int made = 0;
    private static int wrong = 0;
    private static String about = "";

    private Checks() {
    }

    /** What the answers from here on are about: it is told with each wrong one. */
    static void begin(String newAbout) {
        about = newAbout;
    }

    static int made() {
        return made;
    }

    static void due(String call, int got, int want) {
        made++;
        if (got != want) {
            wrong++;
            System.out.println((about.isEmpty() ? "" : about + ": ") + call + " answered " + got + ", due is " + want);
        }
    }

    /** A row of answers, each with its own that is due. */
    static void dues(String calls, int[] got, int... want) {
        due(calls + ", how many", got.length, want.length);
        for (int i = 0; i < got.length && i < want.length; i++) {
            due(calls + ", number " + i, got[i], want[i]);
        }
    }

    static void bad(String call, int... answers) {
        for (int i = 0; i < answers.length; i++) {
            due(call + ", wrong input " + i, answers[i], WreckCourt.BAD);
        }
    }

    static void feed(WreckCourt court, String text) {
        byte[] bytes = text.getBytes(StandardCharsets.ISO_8859_1);
        for (int at = 0; at < bytes.length; at += 8) {
            int n = Math.min(8, bytes.length - at);
            court.feed(packed(bytes, at, n), n);
        }
    }

    static long packed(byte[] bytes, int at, int n) {
        long w = 0;
        for (int k = 0; k < n; k++) {
            w = w << 8 | bytes[at + k] & 255;
        }
        return w;
    }

    static int read(WreckCourt court, String text) {
        feed(court, text);
        return court.rules();
    }

    static void end() {
        System.out.println(made + " answers looked at, " + wrong + " wrong");
        if (wrong > 0 || made == 0) {
            System.exit(1);
        }
    }
}
