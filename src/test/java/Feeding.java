import java.nio.charset.StandardCharsets;

/** Puts a text on the tape, twenty bytes a call. */
final class Feeding {
    private Feeding() {
    }

    /** The words of twenty bytes for feed, blanks behind the text; how many blanks there are: see blanks. */
    static int[][] words(String text) {
        byte[] bytes = text.getBytes(StandardCharsets.ISO_8859_1);
        int[][] calls = new int[(bytes.length + 19) / 20][5];
        for (int i = 0; i < calls.length * 20; i++) {
            int sign = i < bytes.length ? bytes[i] & 255 : ' ';
            calls[i / 20][i % 20 / 4] |= sign << 24 - i % 4 * 8;
        }
        return calls;
    }

    static int blanks(String text) {
        return (20 - text.length() % 20) % 20;
    }

    static void put(QuietTake x, String text) {
        for (int[] w : words(text)) {
            x.feed(w[0], w[1], w[2], w[3], w[4]);
        }
        x.back(blanks(text));
    }

    /** The text read: its FAULT. */
    static int read(QuietTake x, String text) {
        put(x, text);
        return x.read();
    }
}
