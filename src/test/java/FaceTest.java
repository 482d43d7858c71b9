/** Promises 1 to 3, 6 and 16: a new object, feeding, sizes, input; and arguments that nothing has. */
final class FaceTest {
    private static final Checks C = new Checks();

    public static void main(String[] args) {
        newObject();
        feeding();
        feedingInAll();
        theTextIsTheFirstBytes();
        sizes();
        input();
        oddArguments();
        aFaultKeepsTheProgram();
        C.close();
    }

    private static void newObject() {
        SafeCode x = new SafeCode();
        C.due("faultAt()", x.faultAt(), -1);
        for (int what = -1; what < 6; what++) {
            C.due("size(" + what + ")", x.size(what), -1);
        }
        C.due("errors(0)", x.errors(0), -1);
        C.due("escapes(0)", x.escapes(0), 0);
        C.due("ends()", x.ends(), 0);
        C.due("kind(0, 0)", x.kind(0, 0), 0);
        C.due("low(0, 0)", x.low(0, 0), 0);
        C.due("high(0, 0)", x.high(0, 0), 0);
        C.due("sites(0, 0)", x.sites(0, 0), 0);
        C.due("fact(0, 0, 0)", x.fact(0, 0, 0), -1);
        C.due("fact(0, 0, 1)", x.fact(0, 0, 1), 0);
        C.due("lengths(0, 0)", x.lengths(0, 0), -1);
        C.due("run(10)", x.run(10), -1);
        C.due("steps()", x.steps(), 0);
        C.due("place()", x.place(), -1);
        C.due("thrown()", x.thrown(), -1);
        C.due("written()", x.written(), 0);
        C.due("out(0)", x.out(0), 0);
        C.due("strays()", x.strays(), 0);
        C.due("load()", x.load(), 3);
        C.due("faultAt()", x.faultAt(), 0);
    }

    private static void feeding() {
        SafeCode x = new SafeCode();
        C.due("end(0)", x.end(0), true);
        C.due("end(1)", x.end(1), false);
        C.due("end(-1)", x.end(-1), false);
        for (int n = 1; n <= 800; n++) {
            C.due("feed", x.feed(0, 0, 0, 0, 0), 20 * n);
        }
        C.due("feed over 16000", x.feed(0, 0, 0, 0, 0), -1);
        C.due("end(16001)", x.end(16001), false);
        C.due("feed over 16000", x.feed(0, 0, 0, 0, 0), -1);
        C.due("end(16000)", x.end(16000), true);
        C.due("end(1)", x.end(1), false);
        C.due("feed", x.feed(0, 0, 0, 0, 0), 20);
    }

    private static void feedingInAll() {
        SafeCode x = new SafeCode();
        for (int n = 0; n < 3276; n++) {
            C.due("feed", x.feed(0, 0, 0, 0, 0), n % 100 * 20 + 20);
            if (n % 100 == 99) {
                C.due("end(5)", x.end(5), true);
            }
        }
        C.due("feed over 65536", x.feed(0, 0, 0, 0, 0), -1);
        C.due("end(1521)", x.end(1521), false);
        C.due("end(1520)", x.end(1520), true);
        C.due("feed over 65536", x.feed(0, 0, 0, 0, 0), -1);
    }

    private static void theTextIsTheFirstBytes() {
        SafeCode x = new SafeCode();
        // "ab c" "d(ef" "gh{i" "jk l" "mnop": the bytes of an int from the highest on
        x.feed(0x61622063, 0x64286566, 0x67687b69, 0x6a6b206c, 0x6d6e6f70);
        C.due("end(3)", x.end(3), true);
        C.due("load()", x.load(), 2);
        C.due("faultAt()", x.faultAt(), 0);
        C.due("load() of no text", x.load(), 3);
        x.feed(0x636c6173, 0x7320ff00, 0, 0, 0);
        C.due("end(8)", x.end(8), true);
        C.due("load()", x.load(), 1);
        C.due("faultAt()", x.faultAt(), 1);
        x.feed(0x636c6173, 0x7320ff00, 0, 0, 0);
        C.due("end(6)", x.end(6), true);
        C.due("load()", x.load(), 2);
        C.due("faultAt()", x.faultAt(), 1);
        // a later text takes the place of an earlier one
        Checks.text(x, "class");
        Checks.text(x, Checks.main(0, "back"));
        C.due("load()", x.load(), 0);
        C.due("faultAt()", x.faultAt(), -1);
    }

    private static void sizes() {
        SafeCode x = new SafeCode();
        C.due("load", Checks.load(x, Checks.main(0, "back")), 0);
        int[] due = {-1, 1, 0, 1, 7, 1, -1};
        for (int what = -1; what < 6; what++) {
            C.due("size(" + what + ")", x.size(what), due[what + 1]);
        }
        String text = "class A of Object { field f int method m ( ) none 1 { back } } class B of A { } "
            + Checks.main(1, "new A pop push 3 array int pop push 100 store 0 inc 0 -50 push 2147483647 pop back");
        C.due("load", Checks.load(x, text), 0);
        C.due("size(0)", x.size(0), 12);
        C.due("size(1)", x.size(1), 2);
        C.due("size(2)", x.size(2), 2);
        // 7, and 2 3 4, 99 100 101, -51 -50 -49; 2147483646 and 2147483647 are there
        C.due("size(3)", x.size(3), 16);
        C.due("size(4)", x.size(4), 3);
    }

    private static void input() {
        SafeCode x = new SafeCode();
        Checks.load(x, Checks.main(0, "a : read write goto a"));
        for (int k = 0; k < 256; k++) {
            C.due("input", x.input(k + 7), true);
        }
        C.due("input over 256", x.input(1), false);
        C.due("run(-1)", x.run(-1), -1);
        C.due("run(20001)", x.run(20001), -1);
        C.due("steps()", x.steps(), 0);
        C.due("input over 256", x.input(1), false);
        C.due("run(774)", x.run(774), 2);
        C.due("written()", x.written(), 258);
        for (int k = 0; k < 256; k++) {
            C.due("out(" + k + ")", x.out(k), k + 7);
        }
        C.due("out(256)", x.out(256), 0);
        C.due("out(257)", x.out(257), 0);
        C.due("out(-1)", x.out(-1), 0);
        // the input is used up, also what was not read
        C.due("input", x.input(5), true);
        C.due("run(1)", x.run(1), 2);
        C.due("written()", x.written(), 0);
        C.due("out(0)", x.out(0), 0);
        C.due("run(2)", x.run(2), 2);
        C.due("written()", x.written(), 1);
        C.due("out(0)", x.out(0), 0);
    }

    private static void oddArguments() {
        SafeCode x = new SafeCode();
        int[] odd = {Integer.MIN_VALUE, -1, 0, 1, 3, 11, 12, 19, 20, 53, 54, 1023, 1024, 20000, Integer.MAX_VALUE};
        for (int round = 0; round < 2; round++) {
            for (int i : odd) {
                for (int s : odd) {
                    boolean there = round == 1 && i == 1 && s == 12;
                    C.due("kind(" + i + ", " + s + ")", x.kind(i, s), there ? 1 : 0);
                    C.due("low(" + i + ", " + s + ")", x.low(i, s), there ? 5 : 0);
                    C.due("high(" + i + ", " + s + ")", x.high(i, s), there ? 5 : 0);
                    C.due("sites(" + i + ", " + s + ")", x.sites(i, s), 0);
                    C.due("fact(" + i + ", " + s + ", 0)", x.fact(i, s, 0), -1);
                    C.due("fact(" + i + ", " + s + ", 5)", x.fact(i, s, 5), 0);
                    C.due("fact(" + i + ", " + s + ", -1)", x.fact(i, s, -1), 0);
                    C.due("lengths(" + i + ", " + s + ")", x.lengths(i, s), -1);
                }
                C.due("out(" + i + ")", x.out(i), 0);
                C.due("escapes(" + i + ")", x.escapes(i), 0);
                C.due("errors(" + i + ")", x.errors(i), round == 1 && i >= 0 && i < 3 ? 256 : round == 1 && i == 3 ? 768 : -1);
                C.due("end(" + i + ")", x.end(i), i == 0);
            }
            Checks.load(x, Checks.main(1, "push 5 pop goto a a : back"));
        }
    }

    private static void aFaultKeepsTheProgram() {
        SafeCode x = new SafeCode();
        Checks.load(x, Checks.main(1, "push 1 store 0 push 7 write back"));
        String[] wrong = {"\1", "class", "class A of B { }", Checks.main(1, "load 0 write back")};
        for (int k = 0; k < wrong.length; k++) {
            C.due("load of a fault", Checks.load(x, wrong[k]), k + 1);
            C.due("size(0)", x.size(0), 5);
            C.due("low(4, 0)", x.low(4, 0), 1);
            C.due("run(100)", x.run(100), 0);
            C.due("out(0)", x.out(0), 7);
            C.due("steps()", x.steps(), 5);
        }
    }
}
