import java.util.HashSet;
import java.util.Set;

/** What the tests share: feeding texts, and counting the answers that are not due. */
final class Checks {
    private int wrong;
    private int right;
    private final Set<String> sentences = new HashSet<>();
    private String sentence = "";

    /** The answers from here on are due by this sentence of the document. */
    void sentence(String told) {
        sentence = " [" + told + "]";
        sentences.add(told);
    }

    void due(String call, long got, long want) {
        if (got == want) {
            right++;
        } else {
            wrong++;
            System.out.println(call + " answered " + got + ", due is " + want + sentence);
        }
    }

    void due(String call, boolean got, boolean want) {
        due(call, got ? 1 : 0, want ? 1 : 0);
    }

    /** A new object loads the text without a fault. */
    SafeCode fine(String text) {
        return fault(0, -1, text);
    }

    /** A new object finds this fault in the text, at the token behind the mark @. */
    SafeCode fault(int fault, String marked) {
        int mark = marked.indexOf('@');
        return fault(fault, tokens(marked.substring(0, mark)), marked.substring(0, mark) + marked.substring(mark + 1));
    }

    SafeCode fault(int fault, int at, String text) {
        SafeCode x = new SafeCode();
        String told = text.length() < 400 ? text : text.substring(0, 100) + " .. " + text.substring(text.length() - 200);
        due("load of " + told, load(x, text), fault);
        due("faultAt of " + told, x.faultAt(), at);
        return x;
    }

    /** Ends the test, with exit code 1 if an answer was wrong. */
    void close() {
        System.out.println(right + " answers are as due, " + wrong + " are not"
            + (sentences.isEmpty() ? "" : ", by " + sentences.size() + " sentences of the document"));
        if (wrong != 0 || right == 0) {
            System.exit(1);
        }
    }

    /** How many tokens a text without remarks has. */
    static int tokens(String text) {
        String apart = text.replaceAll("[(){}:]", " $0 ").trim();
        return apart.isEmpty() ? 0 : apart.split("\\s+").length;
    }

    /** Feeds a text and ends it. */
    static void text(SafeCode x, String text) {
        byte[] bytes = new byte[(text.length() + 19) / 20 * 20];
        for (int k = 0; k < bytes.length; k++) {
            bytes[k] = (byte) (k < text.length() ? text.charAt(k) : ' ');
        }
        for (int k = 0; k < bytes.length; k += 20) {
            x.feed(word(bytes, k), word(bytes, k + 4), word(bytes, k + 8), word(bytes, k + 12), word(bytes, k + 16));
        }
        x.end(text.length());
    }

    private static int word(byte[] b, int k) {
        return b[k] << 24 | (b[k + 1] & 255) << 16 | (b[k + 2] & 255) << 8 | b[k + 3] & 255;
    }

    static int load(SafeCode x, String text) {
        text(x, text);
        return x.load();
    }

    /** A program whose main has these locals and lines. */
    static String main(int locals, String lines) {
        return "class Main of Object { static main ( ) none " + locals + " { " + lines + " } }";
    }
}
