/** What the tests share: feeding texts, and counting the answers that are not due. */
final class Checks {
    private int wrong;
    private int right;

    void due(String call, long got, long want) {
        if (got == want) {
            right++;
        } else {
            wrong++;
            System.out.println(call + " answered " + got + ", due is " + want);
        }
    }

    void due(String call, boolean got, boolean want) {
        due(call, got ? 1 : 0, want ? 1 : 0);
    }

    /** Ends the test, with exit code 1 if an answer was wrong. */
    void close() {
        System.out.println(right + " answers are as due, " + wrong + " are not");
        if (wrong != 0 || right == 0) {
            System.exit(1);
        }
    }

    /** Feeds a text and ends it. */
    static void text(SafeCode x, String text) {
        byte[] bytes = new byte[(text.length() + 19) / 20 * 20];
        for (int k = 0; k < bytes.length; k++) {
            bytes[k] = (byte) (k < text.length() ? text.charAt(k) : ' ');
        }
        for (int k = 0; k < bytes.length; k += 20) {
            x.feed(word(bytes, k), word(bytes, k + 4), word(bytes, k + 8), word(bytes, k + 12), word(bytes, k + 16));
        }
        x.end(text.length());
    }

    private static int word(byte[] b, int k) {
        return b[k] << 24 | (b[k + 1] & 255) << 16 | (b[k + 2] & 255) << 8 | b[k + 3] & 255;
    }

    static int load(SafeCode x, String text) {
        text(x, text);
        return x.load();
    }

    /** A program whose main has these locals and lines. */
    static String main(int locals, String lines) {
        return "class Main of Object { static main ( ) none " + locals + " { " + lines + " } }";
    }
}
