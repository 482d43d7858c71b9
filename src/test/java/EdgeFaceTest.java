/** Promises 1 to 6 and the sentences before them: a new object, feeding, loading, sizes, and calls that are refused. */
final class EdgeFaceTest {
    private static final Checks C = new Checks();
    private static final int MIN = Integer.MIN_VALUE;
    private static final int MAX = Integer.MAX_VALUE;
    private static final String MAIN = Checks.main(0, "push 7 write back");
    private static final int[] ODD = {MIN, MIN + 1, -20, -2, -1, 0, 1, 2, 11, 12, 13, 19, 20, 47, 48, 53, 54, 62, 63, 64, 1023, 1024, 1 << 20, MAX - 1, MAX};

    public static void main(String[] args) {
        newObject();
        feedOrder();
        feedLimit();
        feedInAll();
        ending();
        refusedEnds();
        loading();
        faultKeepsTheProgram();
        faultTokens();
        sizes();
        anyNumber();
        longestText();
        C.close();
    }

    /** All that an object without a program answers. */
    private static void hasNoProgram(SafeCode x) {
        for (int i : ODD) {
            C.due("size(" + i + ")", x.size(i), -1);
            C.due("errors(" + i + ")", x.errors(i), -1);
            C.due("escapes(" + i + ")", x.escapes(i), 0);
            C.due("out(" + i + ")", x.out(i), 0);
            C.due("run(" + i + ")", x.run(i), -1);
            for (int s : ODD) {
                C.due("kind(" + i + ", " + s + ")", x.kind(i, s), 0);
                C.due("low(" + i + ", " + s + ")", x.low(i, s), 0);
                C.due("high(" + i + ", " + s + ")", x.high(i, s), 0);
                C.due("sites(" + i + ", " + s + ")", x.sites(i, s), 0);
                C.due("lengths(" + i + ", " + s + ")", x.lengths(i, s), -1);
                for (int which : ODD) {
                    C.due("fact(" + i + ", " + s + ", " + which + ")", x.fact(i, s, which), which == 0 ? -1 : 0);
                }
            }
        }
        C.due("ends()", x.ends(), 0);
        C.due("steps()", x.steps(), 0);
        C.due("place()", x.place(), -1);
        C.due("thrown()", x.thrown(), -1);
        C.due("written()", x.written(), 0);
        C.due("strays()", x.strays(), 0);
    }

    private static void newObject() {
        C.sentence("No text, no program, never run");
        SafeCode x = new SafeCode();
        C.due("faultAt()", x.faultAt(), -1);
        hasNoProgram(x);
        C.due("end(1)", x.end(1), false);
        C.due("load() of no text", x.load(), 3);
        C.due("faultAt()", x.faultAt(), 0);
        hasNoProgram(x);
        // a second object has nothing of the first one
        Checks.load(x, MAIN);
        x.run(9);
        x.input(5);
        hasNoProgram(new SafeCode());
    }

    private static void feedOrder() {
        C.sentence("Feeds twenty bytes, the highest of a first, then b, c, d, e");
        SafeCode x = new SafeCode();
        // fault 1 tells how many bytes are before the first one that no text may have
        for (int k = 0; k < 20; k++) {
            int[] w = {0x28282828, 0x28282828, 0x28282828, 0x28282828, 0x28282828};
            w[k / 4] ^= 0xA8 << 24 - k % 4 * 8;
            C.due("feed", x.feed(w[0], w[1], w[2], w[3], w[4]), 20);
            C.due("end(20)", x.end(20), true);
            C.due("load()", x.load(), 1);
            C.due("faultAt() with the byte " + k, x.faultAt(), k);
        }
    }

    private static void feedLimit() {
        C.sentence("how many were fed since the last end(); -1 if there would be more than 16000");
        SafeCode x = new SafeCode();
        for (int n = 1; n <= 800; n++) {
            C.due("feed", x.feed(0x20202020, 0x20202020, 0x20202020, 0x20202020, 0x20202020), 20 * n);
        }
        C.due("feed of 16020", x.feed(0, 0, 0, 0, 0), -1);
        C.due("feed of 16020", x.feed(0, 0, 0, 0, 0), -1);
        C.sentence("A call that is refused changes nothing (feed)");
        C.due("end(16001)", x.end(16001), false);
        C.due("end(16020)", x.end(16020), false);
        C.due("end(16000)", x.end(16000), true);
        // all blanks: the bytes that were refused are not in it
        C.due("load()", x.load(), 3);
        C.due("faultAt()", x.faultAt(), 0);
        C.due("feed", x.feed(0, 0, 0, 0, 0), 20);
        C.due("feed", x.feed(0, 0, 0, 0, 0), 40);
    }

    private static void feedInAll() {
        C.sentence("or more than 65536 in all; Texts are used up: at most 65536 bytes can be fed in all");
        SafeCode x = new SafeCode();
        for (int n = 1; n <= 3276; n++) {
            C.due("feed " + n, x.feed(0, 0, 0, 0, 0), (n - 1) % 800 * 20 + 20);
            if (n % 800 == 0) {
                C.due("end(0)", x.end(0), true);
            }
        }
        // 65520 were fed
        C.due("feed 3277", x.feed(0, 0, 0, 0, 0), -1);
        C.due("end(1520)", x.end(76 * 20), true);
        C.due("feed 3277", x.feed(0, 0, 0, 0, 0), -1);
        C.due("load()", x.load(), 1);
        C.due("feed 3277", x.feed(0, 0, 0, 0, 0), -1);
        C.due("end(1)", x.end(1), false);
        C.due("end(0)", x.end(0), true);
        // feeds that are refused do not count
        x = new SafeCode();
        for (int n = 0; n < 5000; n++) {
            C.due("feed", x.feed(0, 0, 0, 0, 0), n < 800 ? n * 20 + 20 : -1);
        }
        C.due("end(3)", x.end(3), true);
        C.due("feed", x.feed(0, 0, 0, 0, 0), 20);
        for (int n = 801; n < 1600; n++) {
            x.feed(0, 0, 0, 0, 0);
        }
        C.due("end(3)", x.end(3), true);
        C.due("feed", x.feed(0, 0, 0, 0, 0), 20);
    }

    private static void feedText(SafeCode x, String text) {
        byte[] b = new byte[20];
        for (int k = 0; k < 20; k++) {
            b[k] = (byte) (k < text.length() ? text.charAt(k) : ' ');
        }
        int[] w = new int[5];
        for (int k = 0; k < 20; k++) {
            w[k / 4] = w[k / 4] << 8 | b[k];
        }
        x.feed(w[0], w[1], w[2], w[3], w[4]);
    }

    private static void ending() {
        C.sentence("The first n of the bytes fed since become the text, the others are gone");
        String four = "a b c d e f g h i j ";
        for (int n = 0; n <= 20; n++) {
            SafeCode x = new SafeCode();
            feedText(x, "((((((((((((((((((((");
            feedText(x, four);
            C.due("end(" + (20 + n) + ")", x.end(20 + n), true);
            C.due("load()", x.load(), 2);
            feedText(x, four);
            C.due("end(" + n + ")", x.end(n), true);
            C.due("load()", x.load(), n == 0 ? 3 : 2);
            C.due("faultAt()", x.faultAt(), 0);
            // what is behind the n is gone: it is not in the next text
            feedText(x, MAIN.substring(0, 20));
            C.due("end(5)", x.end(5), true);
            C.due("load()", x.load(), 2);
            C.due("faultAt()", x.faultAt(), 1);
        }
        // a byte that is cut off is no fault
        SafeCode x = new SafeCode();
        x.feed(0x636c6173, 0x73000000, 0, 0, 0);
        C.due("end(5)", x.end(5), true);
        C.due("load()", x.load(), 2);
        C.due("faultAt()", x.faultAt(), 1);
        x.feed(0x636c6173, 0x73000000, 0, 0, 0);
        C.due("end(6)", x.end(6), true);
        C.due("load()", x.load(), 1);
        // a later end takes the place of a text that was not loaded
        Checks.text(x, "class");
        Checks.text(x, MAIN);
        C.due("load()", x.load(), 0);
        Checks.text(x, MAIN);
        C.due("end(0)", x.end(0), true);
        C.due("load()", x.load(), 3);
        C.due("faultAt()", x.faultAt(), 0);
    }

    private static void refusedEnds() {
        C.sentence("false if n is below 0 or more than were fed");
        SafeCode x = new SafeCode();
        for (int n : ODD) {
            C.due("end(" + n + ") of none", x.end(n), n == 0);
        }
        feedText(x, "class");
        for (int n : new int[] {MIN, -1, 21, 40, MAX}) {
            C.due("end(" + n + ") of 20", x.end(n), false);
        }
        C.sentence("A call that is refused changes nothing (end)");
        feedText(x, "A of");
        C.due("end(41)", x.end(41), false);
        C.due("end(40)", x.end(40), true);
        C.due("end(21)", x.end(21), false);
        C.due("end(-1)", x.end(-1), false);
        // the text is what the last end that was not refused made
        C.due("load()", x.load(), 2);
        C.due("faultAt()", x.faultAt(), 3);
    }

    private static void loading() {
        C.sentence("Loads the text, which is used up");
        SafeCode x = new SafeCode();
        C.due("load()", Checks.load(x, MAIN), 0);
        C.due("faultAt()", x.faultAt(), -1);
        C.due("load() again", x.load(), 3);
        C.due("faultAt()", x.faultAt(), 0);
        C.due("size(0)", x.size(0), 3);
        for (String wrong : new String[] {"\1", "klass A", "class A of B { }", Checks.main(0, "pop back")}) {
            C.due("load() of a fault", Checks.load(x, wrong) > 0, true);
            C.due("load() again", x.load(), 3);
            C.due("faultAt()", x.faultAt(), 0);
        }
        C.sentence("0, and it is the program from now on, proved at once");
        Checks.text(x, Checks.main(1, "push 3 store 0 back"));
        C.due("size(0) before", x.size(0), 3);
        C.due("load()", x.load(), 0);
        C.due("errors(0)", x.errors(0), 256);
        C.due("low(2, 0)", x.low(2, 0), 3);
        C.due("low(1, 12)", x.low(1, 12), 3);
        C.due("errors(3)", x.errors(3), -1);
        // nothing of the program before is left
        Checks.load(x, "class A of Object { field f A } " + Checks.main(2, "new A store 0 push 5 array int store 1 back"));
        C.due("sites(5, 0)", x.sites(5, 0), 1);
        C.due("lengths(1, 0)", x.lengths(1, 0), 5);
        Checks.load(x, Checks.main(2, "back push 2 array int pop back"));
        C.due("lengths(0, 0)", x.lengths(0, 0), -1);
        C.due("lengths(1, 0)", x.lengths(1, 0), -1);
        C.due("sites(0, 0)", x.sites(0, 0), 0);
        C.due("size(3)", x.size(3), 9);
        C.due("size(4)", x.size(4), 1);
    }

    private static void faultKeepsTheProgram() {
        C.sentence("or the fault 1 .. 4 (the program stays as it was)");
        SafeCode x = new SafeCode();
        Checks.load(x, "class A of Object { field f int } " + Checks.main(2, "new A store 0 push 5 array int store 1 load 0 push 4 put A.f a : push 1 read div write b : back "
            + "c : throw catch a b c Error"));
        String longer = "class Z of Error { field z int field y int static s ( int ) int 3 { push 99 array Z pop push -77 give } } ";
        String[] wrong = {MAIN + "\1", longer + "class", longer + MAIN.replace("Object", "Nope"), longer + Checks.main(3, "new Z store 0 pop back"),
            longer + Checks.main(3, "push 1 isnull a a : back"), longer + "class B of Z { }", ""};
        int[] due = {1, 2, 3, 4, 4, 3, 3};
        for (int k = 0; k < wrong.length; k++) {
            C.due("load()", Checks.load(x, wrong[k]), due[k]);
            int[] sizes = {14, 2, 1, 12, 2};
            for (int what = 0; what < 5; what++) {
                C.due("size(" + what + ")", x.size(what), sizes[what]);
            }
            C.due("errors(10)", x.errors(10), 256 + 8);
            C.due("escapes(13)", x.escapes(13), 1L << 51);
            C.due("ends()", x.ends(), 1L << 51);
            C.due("sites(8, 0)", x.sites(8, 0), 1);
            C.due("lengths(1, 1)", x.lengths(1, 1), 5);
            C.due("fact(6, 12, 0)", x.fact(6, 12, 0), 0);
            C.due("run(99)", x.run(99), 1);
            C.due("place()", x.place(), 13);
            C.due("thrown()", x.thrown(), 51);
            C.due("strays()", x.strays(), 0);
        }
    }

    private static void faultTokens() {
        C.sentence("The token of the latest loading's fault; -1 if it had none or there was none");
        SafeCode x = new SafeCode();
        C.due("faultAt()", x.faultAt(), -1);
        C.due("load()", Checks.load(x, "class A of Object { } class"), 2);
        C.due("faultAt()", x.faultAt(), 7);
        C.due("faultAt()", x.faultAt(), 7);
        // feeding and ending are no loading
        Checks.text(x, MAIN);
        C.due("faultAt()", x.faultAt(), 7);
        C.due("load()", x.load(), 0);
        C.due("faultAt()", x.faultAt(), -1);
        C.due("load()", Checks.load(x, "a b c \1"), 1);
        C.due("faultAt()", x.faultAt(), 3);
        C.due("load()", Checks.load(x, "class A of B { }"), 3);
        C.due("faultAt()", x.faultAt(), 3);
        C.due("load()", Checks.load(x, Checks.main(0, "pop back")), 4);
        C.due("faultAt()", x.faultAt(), 12);
        C.due("load()", Checks.load(x, MAIN), 0);
        C.due("faultAt()", x.faultAt(), -1);
    }

    private static void sizes() {
        C.sentence("How many instructions (0), sites (1), bodies (2), thresholds (3), classes beside the known ones (4) the program has; -1 if there is none, or for another number");
        SafeCode x = C.fine(Checks.main(0, "back"));
        int[] least = {1, 0, 1, 7, 1};
        for (int what : ODD) {
            C.due("size(" + what + ")", x.size(what), what >= 0 && what < 5 ? least[what] : -1);
        }
        C.due("size(3)", x.size(3), 7);
        C.due("size(4)", x.size(4), 1);
        C.due("size(5)", x.size(5), -1);
        // what nothing reaches counts too
        x = C.fine("class A of Object { field f int static s ( ) none 0 { push 50 array A new A pop pop back back } } class B of A { } "
            + Checks.main(0, "back push 60 pop back"));
        int[] more = {11, 2, 2, 13, 3};
        for (int what = 0; what < 5; what++) {
            C.due("size(" + what + ")", x.size(what), more[what]);
        }
    }

    private static void anyNumber() {
        C.sentence("-1 if there is none (errors), 0 if there is none (escapes), none such (kind)");
        SafeCode x = C.fine(Checks.main(1, "push 5 array int store 0 back"));
        for (int i : ODD) {
            boolean there = i >= 0 && i < 4;
            C.due("errors(" + i + ")", x.errors(i), there ? 256 : -1);
            C.due("escapes(" + i + ")", x.escapes(i), 0);
            for (int s : ODD) {
                boolean number = i == 1 && s == 12;
                boolean ref = i == 2 && s == 12 || i == 3 && s == 0;
                C.due("kind(" + i + ", " + s + ")", x.kind(i, s), number ? 1 : ref ? 2 : 0);
                C.due("low(" + i + ", " + s + ")", x.low(i, s), number ? 5 : 0);
                C.due("high(" + i + ", " + s + ")", x.high(i, s), number ? 5 : 0);
                C.due("sites(" + i + ", " + s + ")", x.sites(i, s), ref ? 1 : 0);
                C.due("lengths(" + i + ", " + s + ")", x.lengths(i, s), i == 0 && (s == 0 || s == 1) ? 5 : -1);
                for (int which : ODD) {
                    C.due("fact(" + i + ", " + s + ", " + which + ")", x.fact(i, s, which), which == 0 ? -1 : 0);
                }
            }
        }
    }

    private static void longestText() {
        C.sentence("-1 if there would be more than 16000: so long a text is one");
        String text = MAIN + " ".repeat(16000 - MAIN.length());
        SafeCode x = C.fine(text);
        C.due("run", x.run(9), 0);
        text = " ".repeat(16000 - MAIN.length()) + MAIN;
        C.due("load", Checks.load(x, text), 0);
        C.due("run", x.run(9), 0);
        x = C.fault(1, 0, " ".repeat(15999) + "\1");
        C.fault(2, 0, "{".repeat(16000));
        C.fault(2, 0, "a".repeat(16000));
        C.fault(1, 15999, "}".repeat(15999) + "\1");
        // as many different words as can be
        StringBuilder many = new StringBuilder("class A of Object{static s()none 0{");
        String signs = "abcdefghijklmnopqrstuvwxyz0123456789";
        int n = 0;
        for (int k = 0; many.length() < 15990; k++) {
            char one = (char) ('a' + k / 36 / 36 % 26);
            many.append(one).append(signs.charAt(k / 36 % 36)).append(signs.charAt(k % 36)).append(':');
            n++;
        }
        C.fault(3, 12 + 2 * n + 3, many + "back}}");
    }
}
