import java.nio.charset.StandardCharsets;

/** Feeds a text, twenty bytes at a time, as the numbers that feed takes. */
final class Tape {
    private Tape() {
    }

    static int[][] numbers(String text) {
        byte[] bytes = text.getBytes(StandardCharsets.ISO_8859_1);
        int[][] calls = new int[(bytes.length + 19) / 20][5];
        for (int i = 0; i < bytes.length; i++) {
            calls[i / 20][i % 20 / 4] |= (bytes[i] & 255) << 24 - 8 * (i % 4);
        }
        return calls;
    }

    /** The tape is this text alone. */
    static void put(LiftedChecks x, String text) {
        x.end(0);
        for (int[] n : numbers(text)) {
            x.feed(n[0], n[1], n[2], n[3], n[4]);
        }
        x.end(text.length());
    }

    /** A new object that has this text's CODE. */
    static LiftedChecks coded(String text) {
        LiftedChecks x = new LiftedChecks();
        put(x, text);
        if (x.load(x.text()) < 0) {
            throw new IllegalStateException("fault " + x.fault(0) + " at " + x.fault(1) + " of " + text);
        }
        return x;
    }
}
