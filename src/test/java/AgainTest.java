import java.util.ArrayList;
import java.util.List;

/**
 * Promises 1, 4, 6 to 23: an object that loads and runs one text behind the other answers as a new one that has that text
 * alone. Nothing of an earlier text, proof or run is left, and nothing of another object is there.
 */
final class AgainTest {
    private static final Checks C = new Checks();
    private static final String[] FAULTS = {"class A of \1", "class A of Object { field", "class A of B { }", Checks.main(2, "push 1 array int store 0 new Main store 1 pop back")};
    /** Texts that say different things of the same numbers: of sites, fields, bodies, classes, locals, catches, slots. */
    private static final String[] TEXTS = {
        Checks.main(0, "back"),
        "class A of Object { field f int field g A[] method m ( int int int int ) int 12 { load 1 give } } class B of A { } class E of Error { } "
            + Checks.main(12, "push 5 array A store 11 push 7 array int store 10 new B store 9 a : load 9 push 1 push 2 push 3 push 4 send A.m store 8 "
                + "load 9 push 99 put A.f load 10 read push -50 astore load 11 push 0 load 9 astore b : back c : throw catch a b c IndexError catch a b c Error"),
        Checks.main(1, "read store 0 back push 1 push 2 push 3 push 4 push 5 push 6 push 7 push 8 back"),
        "class A of Error { static s ( A ) A 1 { load 0 give } } class B of Object { } class C of A { field f C } "
            + Checks.main(2, "null store 0 read push 0 eq a new C store 0 a : load 0 call A.s cast C get C.f throw"),
        "class P of Object { field a P field b P method m ( ) P 1 { load 0 get P.a give } } class Q of P { method m ( ) P 1 { load 0 give } } "
            + Checks.main(3, "new P store 0 new Q store 1 load 0 load 1 put P.a load 1 load 0 put P.b load 0 send P.m send P.m store 2 load 2 isnull a push 1 write a : back"),
        "class A of Object { static s ( int ) none 1 { load 0 push 3 lt a null throw a : back } static t ( int int ) int 3 { push 1 load 0 div give } } "
            + Checks.main(0, "push 2 call A.s read read call A.t write back"),
        Checks.main(4, "push 1000 store 0 a : inc 0 -1 load 0 push 0 gt a read array Main store 1 load 1 read null astore back push 9 pop back"),
        "class A of Object { field x int[] } " + Checks.main(2, "read array int store 0 new A store 1 load 1 load 0 put A.x load 1 get A.x length write a : goto a"),
        "class E of Error { } class F of E { field c int } " + Checks.main(1, "a : new F throw b : back c : cast F get F.c write null cast Error throw catch a b c E catch b c c F"),
        Checks.main(12, "push 1 store 11 push 2 store 5 back new Main store 0 push 3 array Main store 1 load 1 push 0 load 0 astore back"),
    };

    public static void main(String[] args) {
        oneBehindTheOther();
        limits();
        textsByChance();
        manyWords();
        C.close();
    }

    private static void oneBehindTheOther() {
        C.sentence("0, and it is the program from now on, proved at once; or the fault (the program stays as it was)");
        SafeCode x = new SafeCode();
        SafeCode other = new SafeCode();
        int n = 0;
        for (int round = 0; round < 3; round++) {
            for (int k = 0; k < TEXTS.length; k++) {
                String text = TEXTS[k * (2 * round + 1) % TEXTS.length];
                C.due("load of " + text, Checks.load(x, text), 0);
                alike(x, text);
                C.due("load of a fault", Checks.load(x, FAULTS[n % 4]), n % 4 + 1);
                alike(x, text);
                // another object in between
                Checks.load(other, TEXTS[n % 7]);
                other.input(n);
                other.run(50);
                alike(x, text);
                n++;
                if (n % 10 == 0) {
                    x = new SafeCode();
                    other = new SafeCode();
                }
            }
        }
    }

    /** Texts with as many classes, fields, bodies, catches, sites and instructions as can be: each has room for its own. */
    private static void limits() {
        C.sentence("25th, 49th, 65th, 1025th of all: of the text");
        StringBuilder classes = new StringBuilder();
        StringBuilder members = new StringBuilder("class A of Object { ");
        for (int k = 1; k < 24; k++) {
            classes.append("class C").append(k).append(" of Error { } ");
        }
        for (int k = 0; k < 48; k++) {
            members.append("field f").append(k).append(" A ").append(k == 0 ? "" : "method m" + k + " ( ) none 1 { back } ");
        }
        String[] texts = {classes + Checks.main(0, "back"), members + "} " + Checks.main(0, "back"),
            Checks.main(0, "a : read pop b : back c : pop back " + "catch a b c Error ".repeat(64)),
            Checks.main(0, "new Main pop ".repeat(48) + "back"), Checks.main(0, "push 1 pop ".repeat(511) + "goto a a : back")};
        for (int n = 0; n < texts.length; n++) {
            SafeCode x = new SafeCode();
            for (int k = 0; k < 5; k++) {
                C.due("load of text " + n, Checks.load(x, texts[n]), 0);
                C.due("run of text " + n, x.run(2000), 0);
            }
        }
    }

    private static void textsByChance() {
        SafeCode x = new SafeCode();
        int fed = 0;
        for (int seed = 1; seed <= 300; seed++) {
            String text = new Texts(seed * 7919).program();
            if (text.length() > 4000) {
                continue;
            }
            fed += text.length() + 20;
            if (fed > 65000) {
                x = new SafeCode();
                fed = text.length() + 20;
            }
            if (Checks.load(x, text) == 0) {
                alike(x, text);
            }
        }
    }

    /** The object answers as a new one that has loaded the text alone. */
    private static void alike(SafeCode x, String text) {
        SafeCode y = new SafeCode();
        Checks.load(y, text);
        List<Long> due = answers(y);
        List<Long> got = answers(x);
        C.due("number of answers to " + text, got.size(), due.size());
        int wrong = -1;
        for (int k = 0; k < due.size() && k < got.size() && wrong < 0; k++) {
            wrong = due.get(k).equals(got.get(k)) ? -1 : k;
        }
        C.due("the first answer that is another one, of " + text, wrong, -1);
    }

    private static List<Long> answers(SafeCode x) {
        List<Long> all = new ArrayList<>();
        for (int what = -1; what < 6; what++) {
            all.add((long) x.size(what));
        }
        all.add(x.ends());
        for (int s = -1; s < 55; s++) {
            all.add((long) x.lengths(s, 0));
            all.add((long) x.lengths(s, 1));
        }
        int strays = x.strays();
        for (int i = -1; i < x.size(0) + 2; i++) {
            all.add((long) x.errors(i));
            all.add(x.escapes(i));
            for (int s = -1; s < 21; s++) {
                all.add((long) x.kind(i, s));
                all.add((long) x.low(i, s));
                all.add((long) x.high(i, s));
                all.add(x.sites(i, s));
                for (int which = 0; which < 5; which++) {
                    all.add((long) x.fact(i, s, which));
                }
            }
        }
        for (int fuel : new int[] {0, 7, 300, 20000}) {
            for (int k = 0; k < 6; k++) {
                x.input(k * fuel - 2);
            }
            all.add((long) x.run(fuel));
            all.add((long) x.steps());
            all.add((long) x.place());
            all.add((long) x.thrown());
            all.add((long) x.written());
            for (int k = -1; k < 258; k++) {
                all.add((long) x.out(k));
            }
        }
        all.add((long) x.strays() - strays);
        return all;
    }

    /** The words of earlier texts take no room: four texts have as many different ones as they can. */
    private static void manyWords() {
        C.sentence("Loads the text, which is used up");
        SafeCode x = new SafeCode();
        String signs = "abcdefghijklmnopqrstuvwxyzABCDEFGHIJKLMNOPQRSTUVWXYZ0123456789_";
        int k = 0;
        for (int n = 0; n < 4; n++) {
            StringBuilder text = new StringBuilder("class Main of Object{static main()none 0{");
            String last = "";
            while (text.length() < 15800) {
                last = "" + signs.charAt(k / 63 / 63 % 26) + signs.charAt(k / 63 % 63) + signs.charAt(k % 63);
                text.append(last).append(':');
                k++;
            }
            C.due("load of many labels", Checks.load(x, text + "push " + n + " write goto " + last + "}}"), 0);
            C.due("run", x.run(5), 2);
            C.due("written()", x.written(), 2);
            C.due("out(1)", x.out(1), n);
        }
    }
}
