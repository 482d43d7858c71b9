/** Promises 1 to 6, 16 to 18, 21 and 22: what feeding, loading, the input and the output answer. */
final class FaceTest {
    private static final Checks C = new Checks();

    public static void main(String[] args) {
        newObject();
        feeding();
        loading();
        C.close();
    }

    private static void newObject() {
        SafeCode x = new SafeCode();
        C.due("faultAt()", x.faultAt(), -1);
        for (int what = -1; what < 6; what++) {
            C.due("size(" + what + ")", x.size(what), -1);
        }
        C.due("errors(0)", x.errors(0), -1);
        C.due("escapes(0)", x.escapes(0), 0);
        C.due("ends()", x.ends(), 0);
        C.due("kind(0, 0)", x.kind(0, 0), 0);
        C.due("low(0, 0)", x.low(0, 0), 0);
        C.due("high(0, 0)", x.high(0, 0), 0);
        C.due("sites(0, 0)", x.sites(0, 0), 0);
        C.due("fact(0, 0, 0)", x.fact(0, 0, 0), -1);
        C.due("fact(0, 0, 1)", x.fact(0, 0, 1), 0);
        C.due("lengths(0, 0)", x.lengths(0, 0), -1);
        C.due("run(10)", x.run(10), -1);
        C.due("steps()", x.steps(), 0);
        C.due("place()", x.place(), -1);
        C.due("thrown()", x.thrown(), -1);
        C.due("written()", x.written(), 0);
        C.due("out(0)", x.out(0), 0);
        C.due("strays()", x.strays(), 0);
        C.due("load()", x.load(), 3);
        C.due("faultAt()", x.faultAt(), 0);
    }

    private static void feeding() {
        SafeCode x = new SafeCode();
        C.due("end(0)", x.end(0), true);
        C.due("end(1)", x.end(1), false);
        C.due("end(-1)", x.end(-1), false);
        for (int n = 1; n <= 800; n++) {
            C.due("feed", x.feed(0, 0, 0, 0, 0), 20 * n);
        }
        C.due("feed over 16000", x.feed(0, 0, 0, 0, 0), -1);
        C.due("end(16001)", x.end(16001), false);
        C.due("end(16000)", x.end(16000), true);
        C.due("end(1)", x.end(1), false);
        C.due("feed", x.feed(0, 0, 0, 0, 0), 20);
    }

    private static void loading() {
        SafeCode x = new SafeCode();
        C.due("load", Checks.load(x, Checks.main(0, "back")), 0);
        C.due("faultAt()", x.faultAt(), -1);
        C.due("size(0)", x.size(0), 1);
        C.due("size(1)", x.size(1), 0);
        C.due("size(2)", x.size(2), 1);
        C.due("size(3)", x.size(3), 7);
        C.due("size(4)", x.size(4), 1);
        C.due("size(5)", x.size(5), -1);
        C.due("run(0)", x.run(0), 2);
        C.due("place()", x.place(), 0);
        C.due("run(1)", x.run(1), 0);
        C.due("steps()", x.steps(), 1);
    }
}
