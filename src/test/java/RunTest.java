/** Promises 16 to 23: runs, their outcomes and what they put out. */
final class RunTest {
    private static final Checks C = new Checks();
    private static final String HEAD = "class A of Object { field n int field a A method m ( int ) int 2 { load 1 push 1 add give } } "
        + "class B of A { field b int method m ( int ) int 2 { load 1 push 2 mul give } } class E of Error { } class F of E { } ";

    public static void main(String[] args) {
        arithmetic();
        jumps();
        references();
        objects();
        arrays();
        types();
        callsAndSends();
        errors();
        catches();
        places();
        fuel();
        heapObjects();
        heapCells();
        depth();
        latest();
        C.close();
    }

    private static SafeCode load(String lines) {
        SafeCode x = new SafeCode();
        C.due("load of " + lines, Checks.load(x, HEAD + Checks.main(6, lines)), 0);
        return x;
    }

    /** Runs main to its end; what it puts out is due. */
    private static void puts(String lines, int... due) {
        SafeCode x = load(lines + " back");
        C.due("run of " + lines, x.run(20000), 0);
        C.due("written of " + lines, x.written(), due.length);
        for (int k = 0; k < due.length; k++) {
            C.due("out(" + k + ") of " + lines, x.out(k), due[k]);
        }
        C.due("out behind the last of " + lines, x.out(due.length), 0);
        C.due("thrown of " + lines, x.thrown(), -1);
        C.due("strays of " + lines, x.strays(), 0);
    }

    private static void arithmetic() {
        puts("push 2147483647 push 1 add write push -2147483648 push 1 sub write", Integer.MIN_VALUE, Integer.MAX_VALUE);
        puts("push 65536 push 65537 mul write push -2147483648 neg write", 65536, Integer.MIN_VALUE);
        puts("push 7 push 2 div write push -7 push 2 div write push 7 push -2 div write", 3, -3, -3);
        puts("push 7 push 3 rem write push -7 push 3 rem write push 7 push -3 rem write", 1, -1, 1);
        puts("push -2147483648 push -1 div write push -2147483648 push -1 rem write", Integer.MIN_VALUE, 0);
        puts("push 12 push 10 and write push 12 push 10 or write push 12 push 10 xor write", 8, 14, 6);
        puts("push 1 push 33 shl write push -8 push 1 shr write push -8 push 33 shr write push 1 push -1 shl write",
            2, -4, -4, Integer.MIN_VALUE);
        puts("push 2147483647 store 0 inc 0 2 load 0 write inc 0 -1 load 0 write", -2147483647, Integer.MIN_VALUE);
        puts("push 1 push 2 swap write write push 3 dup write write push 4 push 5 pop write", 1, 2, 3, 3, 4);
    }

    private static void jumps() {
        String[] ops = {"eq", "ne", "lt", "le", "gt", "ge"};
        int[][] due = {{0, 1, 0}, {1, 0, 1}, {1, 0, 0}, {1, 1, 0}, {0, 0, 1}, {0, 1, 1}};
        for (int k = 0; k < ops.length; k++) {
            SafeCode x = load("n : read read " + ops[k] + " a push 0 write goto n a : push 1 write goto n");
            for (int v : new int[] {-3, 4, 4, 4, 5, -2147483648}) {
                C.due("input", x.input(v), true);
            }
            C.due("run", x.run(18), 2);
            for (int n = 0; n < 3; n++) {
                C.due(ops[k] + " " + n, x.out(n), due[k][n]);
            }
            C.due("strays()", x.strays(), 0);
        }
    }

    private static void references() {
        puts("null isnull a push 0 write a : null notnull b push 1 write b : push 2 write", 1, 2);
        puts("new A store 0 load 0 load 0 same a push 0 write a : new A new A same b push 1 write b : null null other c push 2 write c :",
            1, 2);
    }

    private static void objects() {
        puts("new B store 0 load 0 get A.n write load 0 get B.b write load 0 push 5 put A.n load 0 push 6 put B.b load 0 get B.n write "
            + "load 0 get B.b write load 0 get A.a isnull a push 9 write a : load 0 load 0 put A.a load 0 get A.a get A.n write",
            0, 0, 5, 6, 5);
    }

    private static void arrays() {
        puts("push 3 array int store 0 load 0 length write load 0 push 2 push 8 astore load 0 push 2 aload write load 0 push 1 aload write "
            + "push 0 array A length write", 3, 8, 0, 0);
        puts("push 2 array A store 0 load 0 push 1 aload isnull a push 9 write a : load 0 push 1 new B astore "
            + "load 0 push 1 aload is B write", 1);
    }

    private static void types() {
        puts("new B is A write new B is B write new A is B write null is A write new A is Object write", 1, 1, 0, 0, 1);
        puts("push 1 array B dup is Object write dup is A[] write dup is B[] write dup is int[] write is A write", 1, 1, 1, 0, 0);
        puts("push 1 array int dup is int[] write dup is Object[] write is Object write", 1, 0, 1);
        puts("new B cast A is B write null cast A[] isnull a push 7 write a :", 1);
    }

    private static void callsAndSends() {
        puts("new A push 10 send A.m write new B push 10 send A.m write new B push 10 send B.m write", 11, 20, 20);
        SafeCode x = new SafeCode();
        String text = "class Main of Object { static main ( ) none 0 { push 5 call Main.fac write push 1 push 2 call Main.sub write back } "
            + "static fac ( int ) int 1 { load 0 push 1 le a load 0 load 0 push 1 sub call Main.fac mul give a : push 1 give } "
            + "static sub ( int int ) int 2 { load 0 load 1 sub give } }";
        C.due("load", Checks.load(x, text), 0);
        C.due("run", x.run(1000), 0);
        C.due("out(0)", x.out(0), 120);
        C.due("out(1)", x.out(1), -1);
        C.due("strays()", x.strays(), 0);
    }

    private static void ends(String lines, int site, int place) {
        SafeCode x = load(lines);
        C.due("run of " + lines, x.run(1000), 1);
        C.due("thrown of " + lines, x.thrown(), site);
        C.due("place of " + lines, x.place(), place + 8);
        C.due("strays of " + lines, x.strays(), 0);
        C.due("ends() has it of " + lines, x.ends() >>> site & 1, 1);
    }

    private static void errors() {
        ends("null length pop back", 48, 1);
        ends("null push 0 aload pop back", 48, 2);
        ends("null push -1 new A astore back", 48, 3);
        ends("null get A.n pop back", 48, 1);
        ends("null push 1 put A.n back", 48, 2);
        ends("null push 1 send A.m pop back", 48, 2);
        ends("null throw", 48, 1);
        ends("push 2 array int push 2 aload pop back", 49, 3);
        ends("push 2 array int push -1 aload pop back", 49, 3);
        ends("push 2 array B cast A[] push 2 new A astore back", 49, 5);
        ends("push -1 array int pop back", 50, 1);
        ends("push 1 push 0 div pop back", 51, 2);
        ends("push 1 push 0 rem pop back", 51, 2);
        ends("new A cast B pop back", 52, 1);
        ends("push 1 array A cast int[] pop back", 52, 2);
        ends("push 2 array B cast A[] push 1 new A astore back", 53, 5);
        ends("new F throw", 0, 1);
        ends("new NullError throw", 0, 1);
    }

    private static void catches() {
        puts("a : push 1 push 0 div write b : push 2 write c : back h : is DivideError write goto b catch a b h DivideError", 1, 2);
        // the first one in the order of the text, of the class or one above it
        puts("a : new F throw b : h : pop push 1 write goto z i : pop push 2 write z : catch a b i NullError catch a b h E catch a b i F", 1);
        puts("a : new E throw b : h : pop push 1 write goto z i : pop push 2 write z : catch a b h F catch a b i Error", 2);
        // FROM up to before TO
        ends("goto a a : push 1 b : push 0 div write back h : pop back catch a b h Error", 51, 3);
        // the stack becomes the object alone
        puts("a : push 9 push 8 null length add write write b : back h : is NullError write catch a b h Error", 1);
        // out of a call, to a catch that has the call
        SafeCode x = new SafeCode();
        String text = "class Main of Object { static main ( ) none 0 { a : call Main.f b : back h : is IndexError write back catch a b h Error } "
            + "static f ( ) none 0 { a : call Main.g b : back h : pop back catch a b h DivideError } "
            + "static g ( ) none 0 { push 0 array int push 0 aload write back } }";
        C.due("load", Checks.load(x, text), 0);
        C.due("run", x.run(1000), 0);
        C.due("out(0)", x.out(0), 1);
        C.due("place()", x.place(), 4);
        C.due("steps()", x.steps(), 9);
        C.due("strays()", x.strays(), 0);
    }

    private static void places() {
        SafeCode x = new SafeCode();
        String text = "class Main of Object { static main ( ) none 0 { call Main.f back } static f ( ) none 0 { call Main.g back } "
            + "static g ( ) none 0 { new Error throw } }";
        C.due("load", Checks.load(x, text), 0);
        C.due("run", x.run(1000), 1);
        C.due("place()", x.place(), 5);
        C.due("thrown()", x.thrown(), 0);
        C.due("steps()", x.steps(), 4);
        // thrown again by main itself
        text = "class Main of Object { static main ( ) none 0 { a : call Main.g b : back h : throw catch a b h Error } "
            + "static g ( ) none 0 { new Error throw } }";
        C.due("load", Checks.load(x, text), 0);
        C.due("run", x.run(1000), 1);
        C.due("place()", x.place(), 2);
        C.due("run(2)", x.run(2), 2);
        C.due("place()", x.place(), 4);
        C.due("thrown()", x.thrown(), -1);
    }

    private static void fuel() {
        SafeCode x = load("push 1 write back");
        int[] due = {2, 2, 2, 0, 0};
        for (int f = 0; f < due.length; f++) {
            C.due("run(" + f + ")", x.run(f), due[f]);
            C.due("steps()", x.steps(), Math.min(f, 3));
            C.due("place()", x.place(), 8 + Math.min(f, 2));
            C.due("written()", x.written(), f < 2 ? 0 : 1);
        }
        x = load("a : goto a");
        C.due("run(20000)", x.run(20000), 2);
        C.due("steps()", x.steps(), 20000);
        C.due("run(20001)", x.run(20001), -1);
        C.due("run(-1)", x.run(-1), -1);
        C.due("steps()", x.steps(), 20000);
        // an error that is raised is a step, and needs one
        x = load("a : push 1 push 0 div b : back h : pop back catch a b h Error");
        C.due("run(3)", x.run(3), 2);
        C.due("place()", x.place(), 8 + 4);
        C.due("run(2)", x.run(2), 2);
        C.due("place()", x.place(), 8 + 2);
    }

    private static void heapObjects() {
        SafeCode x = load("push 0 store 0 a : new Object pop inc 0 1 goto a");
        C.due("run", x.run(20000), 3);
        C.due("steps()", x.steps(), 2 + 4 * 2000 + 1);
        C.due("place()", x.place(), 8 + 2);
        C.due("thrown()", x.thrown(), -1);
        // errors are objects too
        x = load("push 0 store 0 a : push 1 push 0 div write goto a b : h : pop inc 0 1 load 0 write goto a catch a b h Error");
        C.due("run", x.run(20000), 3);
        C.due("written()", x.written(), 2000);
        C.due("out(255)", x.out(255), 256);
        C.due("out(256)", x.out(256), 0);
        C.due("place()", x.place(), 8 + 4);
        C.due("steps()", x.steps(), 2 + 2000 * 8 + 3);
        C.due("strays()", x.strays(), 0);
    }

    private static void heapCells() {
        SafeCode x = load("read array int pop read array int pop new A pop back");
        int[][] sizes = {{12000, 0, 3, 6}, {12001, 0, 3, 1}, {6000, 6000, 3, 6}, {11998, 0, 0, 8}, {11999, 0, 3, 6}, {2147483647, 0, 3, 1},
            {6000, 6001, 3, 4}};
        for (int[] s : sizes) {
            x.input(s[0]);
            x.input(s[1]);
            C.due("run of " + s[0] + " and " + s[1], x.run(100), s[2]);
            C.due("place()", x.place(), 8 + s[3]);
            C.due("steps()", x.steps(), s[3] + 1);
        }
        // a class has the fields of those above it
        x = load("read array int pop new B pop back");
        x.input(11997);
        C.due("run", x.run(100), 0);
        x.input(11998);
        C.due("run", x.run(100), 3);
    }

    private static void depth() {
        SafeCode x = new SafeCode();
        String text = "class Main of Object { static main ( ) none 0 { read call Main.f back } "
            + "static f ( int ) none 1 { load 0 push 0 le a load 0 push 1 sub call Main.f a : back } }";
        C.due("load", Checks.load(x, text), 0);
        x.input(62);
        C.due("run", x.run(20000), 0);
        x.input(63);
        C.due("run", x.run(20000), 4);
        C.due("place()", x.place(), 9);
        C.due("steps()", x.steps(), 2 + 63 * 7);
        C.due("strays()", x.strays(), 0);
    }

    private static void latest() {
        SafeCode x = load("push 5 write new E throw");
        C.due("run", x.run(100), 1);
        C.due("thrown()", x.thrown(), 0);
        // another program does not change what the latest run tells
        Checks.load(x, Checks.main(0, "back"));
        C.due("thrown()", x.thrown(), 0);
        C.due("steps()", x.steps(), 4);
        C.due("place()", x.place(), 11);
        C.due("written()", x.written(), 1);
        C.due("out(0)", x.out(0), 5);
        C.due("run", x.run(100), 0);
        C.due("thrown()", x.thrown(), -1);
        C.due("written()", x.written(), 0);
        C.due("out(0)", x.out(0), 0);
        C.due("place()", x.place(), 0);
    }
}
