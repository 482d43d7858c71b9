/** Terms 5 and promises 16 to 23, sentence by sentence: runs and what is told of them. */
final class EdgeRunTest {
    private static final Checks C = new Checks();
    private static final int MIN = Integer.MIN_VALUE;
    private static final int MAX = Integer.MAX_VALUE;
    private static final int[] EDGES = {MIN, MIN + 1, -2, -1, 0, 1, 2, 31, 32, MAX - 1, MAX};
    private static final String CLASSES = "class A of Object { field n int field a A field s int[] method m ( int ) int 2 { load 1 push 1 add give } } "
        + "class B of A { field b int method m ( int ) int 2 { load 1 push 2 mul give } } class D of B { } "
        + "class E of Error { } class F of E { } ";

    public static void main(String[] args) {
        firstValues();
        whatIsBelow();
        calculations();
        shifts();
        comparisons();
        incs();
        reading();
        is();
        casts();
        sends();
        nullErrors();
        indexErrors();
        sizeErrors();
        divideErrors();
        castErrors();
        storeErrors();
        orderOfErrors();
        newErrors();
        firstCatch();
        fromUpToTo();
        stackAlone();
        thrownByTheCall();
        steps();
        fuel();
        objectLimit();
        cellLimit();
        doesNothing();
        bodyLimit();
        input();
        refusedRuns();
        stepsAndPlaces();
        thrown();
        written();
        strays();
        C.close();
    }

    /** A program whose instructions of main are numbered from 0. */
    private static SafeCode load(String lines, String bodies) {
        return C.fine("class Main of Object { static main ( ) none 6 { " + lines + " } " + bodies + "} " + CLASSES);
    }

    private static SafeCode load(String lines) {
        return load(lines, "");
    }

    private static void ends(SafeCode x, int fuel, int outcome, int steps, int place) {
        C.due("run(" + fuel + ")", x.run(fuel), outcome);
        C.due("steps()", x.steps(), steps);
        C.due("place()", x.place(), place);
        C.due("strays()", x.strays(), 0);
    }

    private static void puts(SafeCode x, int... due) {
        C.due("written()", x.written(), due.length);
        for (int k = 0; k < due.length; k++) {
            C.due("out(" + k + ")", x.out(k), due[k]);
        }
    }

    /** The lines put these numbers out and come to back. */
    private static void gives(String lines, int... due) {
        SafeCode x = load(lines + " back");
        C.due("run of " + lines, x.run(20000), 0);
        puts(x, due);
        C.due("strays of " + lines, x.strays(), 0);
    }

    /** The last of the lines' instructions, which are so many, throws an object of the site out of main. */
    private static void raises(String lines, int many, int site) {
        SafeCode x = load(lines + " back");
        ends(x, 20000, 1, many, many - 1);
        C.due("thrown of " + lines, x.thrown(), site);
    }

    private static void firstValues() {
        C.sentence("An object has a class and fields, each at first 0 or null, or is an array with a length and elements, likewise");
        SafeCode x = load("new B store 0 load 0 get A.n write load 0 get B.b write load 0 get A.a isnull a push 9 write a : load 0 get A.s notnull b "
            + "push 3 array int store 1 load 1 push 0 aload write load 1 push 2 aload write push 2 array A push 1 aload notnull b "
            + "load 0 push 7 put A.n load 0 push 7 put B.b load 0 load 0 put A.a load 0 load 1 put A.s load 1 push 0 push 5 astore "
            + "load 1 push 2 push 5 astore back b : push 8 write back");
        // what an earlier run put there is gone
        for (int n = 0; n < 3; n++) {
            C.due("run", x.run(200), 0);
            puts(x, 0, 0, 0, 0);
        }
    }

    /** Lines that leave the stack as it was. */
    private static final String[] NEUTRAL = {
        "read pop", "null pop", "load 0 pop", "push 3 store 0", "inc 0 1", "push 3 dup pop pop", "push 3 push 4 swap pop pop", "push 6 push 3 add pop",
        "push 6 push 3 sub pop", "push 6 push 3 mul pop", "push 6 push 3 div pop", "push 6 push 3 rem pop", "push 6 push 3 and pop", "push 6 push 3 or pop",
        "push 6 push 3 xor pop", "push 6 push 3 shl pop", "push 6 push 3 shr pop", "push 6 neg pop", "goto x x :", "push 1 push 2 eq x x :",
        "push 1 push 2 ne x x :", "push 1 push 2 lt x x :", "push 1 push 2 le x x :", "push 1 push 2 gt x x :", "push 1 push 2 ge x x :", "null isnull x x :",
        "new A isnull x x :", "null notnull x x :", "new A notnull x x :", "null null same x x :", "new A null other x x :", "new A pop",
        "push 2 array int pop", "push 2 array int length pop", "push 2 array int push 0 aload pop", "push 2 array A push 0 aload pop",
        "push 2 array int push 0 push 9 astore", "push 2 array A push 0 new A astore", "new A get A.n pop", "new A get A.a pop", "new A push 3 put A.n",
        "new A null put A.a", "new B cast A pop", "null cast A pop", "new B is A pop", "push 1 push 2 call Main.q pop", "call Main.r",
        "new A push 1 send A.m pop", "push 3 write"};

    private static void whatIsBelow() {
        C.sentence("INSTRUCTIONS take and leave on the stack: what is below stays");
        String bodies = "static q ( int int ) int 3 { push 9 load 0 load 1 sub give } static r ( ) none 2 { push 1 push 2 push 3 back } ";
        for (String lines : NEUTRAL) {
            SafeCode x = load("push 5 store 0 push 77 push 78 " + lines + " write write back", bodies);
            C.due("run of " + lines, x.run(99), 0);
            int n = x.written();
            C.due("written() of " + lines, n, lines.endsWith("write") ? 3 : 2);
            C.due("out of " + lines, x.out(n - 2), 78);
            C.due("out of " + lines, x.out(n - 1), 77);
            C.due("strays()", x.strays(), 0);
        }
        // whether it is null does not hang on what is below
        gives("push 0 null isnull a push 5 write a : null new A isnull b push 6 write b : null null notnull c push 7 write c : push 1 null isnull d push 8 write d :", 6, 7);
    }

    private static void calculations() {
        C.sentence("add sub mul neg wrap; div cuts towards 0 (-2147483648 / -1 is itself, rem 0)");
        String[] ops = {"add", "sub", "mul", "and", "or", "xor", "div", "rem"};
        for (int k = 0; k < ops.length; k++) {
            SafeCode x = load("a : read read " + ops[k] + " write goto a");
            for (int a : EDGES) {
                for (int b : EDGES) {
                    long p = a;
                    long[] due = {p + b, p - b, p * b, a & b, a | b, a ^ b, b == 0 ? 0 : p / b, b == 0 ? 0 : p % b};
                    x.input(a);
                    x.input(b);
                    boolean zero = k >= 6 && b == 0;
                    C.due(a + " " + b + " " + ops[k], x.run(4), zero ? 1 : 2);
                    C.due(a + " " + b + " " + ops[k], x.out(0), zero ? 0 : (int) due[k]);
                }
            }
            C.due("strays()", x.strays(), 0);
        }
        gives("push -2147483648 push -1 div write push -2147483648 push -1 rem write push -2147483648 neg write", MIN, 0, MIN);
        gives("push -7 push 2 div write push 7 push -2 div write push -7 push 2 rem write push 7 push -2 rem write", -3, -3, -1, 1);
        gives("push 2147483647 push 1 add write push -2147483648 push 1 sub write push 65536 push 65536 mul write", MIN, MAX, 0);
    }

    private static void shifts() {
        C.sentence("shl and shr shift by the lowest 5 bits, shr keeps the sign");
        for (String op : new String[] {"shl", "shr"}) {
            SafeCode x = load("a : read read " + op + " write goto a");
            for (int a : EDGES) {
                for (int b : new int[] {MIN, -33, -32, -31, -1, 0, 1, 30, 31, 32, 33, 63, 64, MAX}) {
                    int by = Math.floorMod(b, 32);
                    long due = op.equals("shl") ? a * (1L << by) : Math.floorDiv((long) a, 1L << by);
                    x.input(a);
                    x.input(b);
                    C.due("run", x.run(4), 2);
                    C.due(a + " " + b + " " + op, x.out(0), (int) due);
                }
            }
            C.due("strays()", x.strays(), 0);
        }
    }

    private static void comparisons() {
        C.sentence("eq .. ge: a is compared with b (b on top)");
        String[] ops = {"eq", "ne", "lt", "le", "gt", "ge"};
        for (int k = 0; k < ops.length; k++) {
            SafeCode x = load("read read " + ops[k] + " a push 0 write back a : push 1 write back");
            for (int a : EDGES) {
                for (int b : EDGES) {
                    boolean[] due = {a == b, a != b, a < b, a <= b, a > b, a >= b};
                    x.input(a);
                    x.input(b);
                    C.due("run", x.run(9), 0);
                    C.due(a + " " + b + " " + ops[k], x.out(0), due[k] ? 1 : 0);
                }
            }
            C.due("strays()", x.strays(), 0);
        }
    }

    private static void incs() {
        C.sentence("inc adds N, wrapping");
        gives("push 2147483647 store 5 inc 5 1 load 5 write inc 5 -1 load 5 write inc 5 -2147483648 load 5 write inc 5 2147483647 load 5 write",
            MIN, MAX, -1, MAX - 1);
        gives("push -2147483648 store 0 inc 0 -2147483648 load 0 write inc 0 0 load 0 write", 0, 0);
    }

    private static void reading() {
        C.sentence("read leaves the next int of the INPUT, 0 behind its end; write puts an int out");
        SafeCode x = load("read write read write read write read write back");
        C.due("run", x.run(20), 0);
        puts(x, 0, 0, 0, 0);
        x.input(MIN);
        x.input(MAX);
        x.input(-1);
        C.due("run", x.run(20), 0);
        puts(x, MIN, MAX, -1, 0);
        C.due("run", x.run(20), 0);
        puts(x, 0, 0, 0, 0);
        // behind the end of a full input
        x = load("push 0 store 1 a : read store 0 inc 1 1 load 1 push 256 lt a read write load 0 write back");
        for (int k = 0; k < 256; k++) {
            x.input(k + 1);
        }
        C.due("run", x.run(20000), 0);
        puts(x, 0, 256);
    }

    private static void is() {
        C.sentence("is: 1 if it is no null and its class is T or below (of arrays their type), else 0");
        gives("null is Object write null is A write null is int[] write null is A[] write", 0, 0, 0, 0);
        gives("new B is D write new B is B write new B is A write new B is Object write new B is E write new B is B[] write", 0, 1, 1, 1, 0, 0);
        gives("push 0 array B dup is D[] write dup is B[] write dup is A[] write dup is Object[] write dup is Object write dup is B write is int[] write",
            0, 1, 1, 1, 1, 0, 0);
        gives("push 0 array int dup is int[] write dup is Object[] write dup is Object write is A[] write", 1, 0, 1, 0);
        gives("new NullError is Error write new NullError is NullError write new NullError is IndexError write new Error is NullError write", 1, 1, 0, 0);
    }

    private static void casts() {
        C.sentence("cast: null and such objects stay");
        gives("null cast D isnull a push 1 write a : null cast int[] isnull b push 2 write b : null cast A[] isnull c push 3 write c :");
        gives("new B store 0 load 0 cast A load 0 same a push 1 write a : load 0 cast B load 0 same b push 2 write b : load 0 cast Object load 0 same c push 3 write c :");
        gives("push 2 array D store 0 load 0 cast A[] length write load 0 cast Object[] length write load 0 cast Object cast D[] length write", 2, 2, 2);
    }

    private static void sends() {
        C.sentence("send: that of the name in the object's class, or the nearest above it");
        gives("new A push 5 send A.m write new B push 5 send A.m write new D push 5 send A.m write new D push 5 send D.m write new B push 5 send B.m write",
            6, 10, 10, 10, 10);
    }

    private static void nullErrors() {
        C.sentence("length, aload, astore, get, put, send, throw of null: NullError");
        raises("null length pop", 2, 48);
        raises("null push 0 aload pop", 3, 48);
        raises("null push 0 push 1 astore", 4, 48);
        raises("null get A.n pop", 2, 48);
        raises("null push 1 put A.n", 3, 48);
        raises("null push 1 send A.m pop", 3, 48);
        raises("null throw", 2, 48);
        raises("new A get A.a get A.n pop", 3, 48);
        raises("push 1 array A push 0 aload get A.n pop", 5, 48);
        gives("null is A write null cast A isnull a push 7 write a : null null same b push 8 write b :", 0);
    }

    private static void indexErrors() {
        C.sentence("an index below 0 or not below the length: IndexError");
        for (int length : new int[] {0, 1, 5, 12000}) {
            SafeCode x = load("read array int store 0 load 0 read push 3 astore load 0 read aload write back");
            for (int index : new int[] {MIN, -1, 0, length - 1, length, length + 1, MAX}) {
                boolean fine = index >= 0 && index < length;
                x.input(length);
                x.input(index);
                x.input(index);
                C.due("run of " + index, x.run(99), fine ? 0 : 1);
                C.due("thrown of " + index, x.thrown(), fine ? -1 : 49);
                C.due("place of " + index, x.place(), fine ? 11 : 6);
                C.due("out(0) of " + index, x.out(0), fine ? 3 : 0);
                if (length > 0) {
                    x.input(length);
                    x.input(0);
                    x.input(index);
                    C.due("run of " + index, x.run(99), fine ? 0 : 1);
                    C.due("place of " + index, x.place(), fine ? 11 : 9);
                }
            }
            C.due("strays()", x.strays(), 0);
        }
    }

    private static void sizeErrors() {
        C.sentence("array with a count below 0: SizeError");
        SafeCode x = load("read array int length write back");
        for (int count : new int[] {MIN, MIN + 1, -2, -1, 0, 1, 12000}) {
            x.input(count);
            C.due("run of " + count, x.run(9), count < 0 ? 1 : 0);
            C.due("thrown of " + count, x.thrown(), count < 0 ? 50 : -1);
            C.due("place of " + count, x.place(), count < 0 ? 1 : 4);
            C.due("out of " + count, x.out(0), count < 0 ? 0 : count);
        }
        C.due("strays()", x.strays(), 0);
        raises("push -1 array A pop", 2, 50);
    }

    private static void divideErrors() {
        C.sentence("div and rem by 0: DivideError");
        raises("push 1 push 0 div pop", 3, 51);
        raises("push 0 push 0 rem pop", 3, 51);
        raises("push -2147483648 push 0 div pop", 3, 51);
        gives("push 0 push 1 div write push 0 push -1 rem write", 0, 0);
    }

    private static void castErrors() {
        C.sentence("cast else: CastError");
        raises("new A cast B pop", 2, 52);
        raises("new A cast E pop", 2, 52);
        raises("new A cast A[] pop", 2, 52);
        raises("push 0 array A cast B[] pop", 3, 52);
        raises("push 0 array A cast A pop", 3, 52);
        raises("push 0 array int cast A[] pop", 3, 52);
        raises("push 0 array int cast Object[] pop", 3, 52);
        raises("push 0 array A cast int[] pop", 3, 52);
    }

    private static void storeErrors() {
        C.sentence("astore of an object that is not below the element's class of the array (as it was made): StoreError");
        raises("push 1 array B cast A[] push 0 new A astore", 6, 53);
        raises("push 1 array B cast Object[] push 0 push 0 array B astore", 7, 53);
        raises("push 1 array D cast Object[] push 0 new B astore", 6, 53);
        gives("push 1 array B cast A[] store 0 load 0 push 0 new B astore load 0 push 0 new D astore load 0 push 0 null astore load 0 push 0 aload isnull a push 5 write a :");
        gives("push 1 array Object store 0 load 0 push 0 push 7 array int astore load 0 push 0 aload cast int[] length write", 7);
        // an error leaves the array as it was
        SafeCode x = load("push 1 array B store 0 load 0 push 0 new D astore a : load 0 cast A[] push 0 new A astore b : back "
            + "c : is StoreError write load 0 push 0 aload is D write back catch a b c StoreError");
        C.due("run", x.run(99), 0);
        puts(x, 1, 1);
    }

    private static void orderOfErrors() {
        C.sentence("in this order");
        raises("null push -1 aload pop", 3, 48);
        raises("null push -1 new A astore", 4, 48);
        raises("push 1 array B cast A[] push 1 new A astore", 6, 49);
        raises("push 1 array B cast A[] push -1 new A astore", 6, 49);
        raises("push 0 array B cast A[] push 0 new A astore", 6, 49);
    }

    private static void newErrors() {
        C.sentence("An error is a new object of its class");
        String[] lines = {"null length pop", "push 0 array int push 0 aload pop", "push -1 array int pop", "push 1 push 0 div pop",
            "new A cast B pop", "push 1 array B cast A[] push 0 new A astore"};
        String[] names = {"NullError", "IndexError", "SizeError", "DivideError", "CastError", "StoreError"};
        for (int k = 0; k < lines.length; k++) {
            for (int n = 0; n < names.length; n++) {
                gives("goto a c : is " + names[n] + " write back a : " + lines[k] + " b : push 9 write back catch a b c Error", k == n ? 1 : 0);
            }
        }
        gives("a : null length pop b : back c : store 1 d : null length pop e : back f : store 2 load 1 load 2 same g push 4 write g : back "
            + "catch a b c NullError catch d e f Error", 4);
    }

    private static void firstCatch() {
        C.sentence("Thrown objects go to the first catch, in the order of the text, of the body that runs whose FROM to TO has the instruction "
            + "and whose CLASS is the object's or above it");
        String lines = "a : new F throw b : c : push 1 write pop back d : push 2 write pop back e : push 3 write pop back ";
        gives(lines + "catch a b c F catch a b d E catch a b e Error", 1);
        gives(lines + "catch a b d E catch a b c F", 2);
        gives(lines + "catch a b c NullError catch a b e Error catch a b d E", 3);
        gives(lines + "catch c d c Error catch a c d F", 2);
        gives("catch a b e E " + lines + "catch a b c F", 3);
        // a class below is none, nor one beside
        SafeCode x = load("a : new E throw b : c : push 1 write pop back catch a b c F catch a b c NullError");
        ends(x, 99, 1, 2, 1);
        C.due("thrown()", x.thrown(), 0);
        // a catch of another body does not count
        x = load("call Main.q back", "static q ( ) none 0 { a : null throw b : back } static r ( ) none 0 { a : read pop b : back c : pop back catch a b c Error } ");
        ends(x, 99, 1, 3, 3);
    }

    private static void fromUpToTo() {
        C.sentence("whose FROM to TO has the instruction");
        // 0 null, 1 length, 2 pop, 3 back, 4 pop, 5 back: the length is in it or not
        String lines = "%s null %s length %s pop %s back c : pop back catch f t c Error";
        for (int f = 0; f < 4; f++) {
            for (int t = f + 1; t < 4; t++) {
                String[] at = {"", "", "", ""};
                at[f] = "f :";
                at[t] = "t :";
                SafeCode x = load(String.format(lines, (Object[]) at));
                boolean caught = f <= 1 && t > 1;
                ends(x, 99, caught ? 0 : 1, caught ? 4 : 2, caught ? 5 : 1);
            }
        }
        // what the AT itself throws is not caught by its catch, unless it stands between
        SafeCode x = load("a : null length b : pop back c : throw catch a b c Error");
        ends(x, 99, 1, 3, 4);
        x = load("a : null length c : pop null throw b : back catch a b c Error");
        ends(x, 99, 2, 99, 3);
    }

    private static void stackAlone() {
        C.sentence("the stack becomes the object alone");
        gives("push 1 push 2 push 3 push 4 push 5 push 6 push 7 a : null length b : add write back c : is NullError write push 1 push 2 push 3 push 4 push 5 "
            + "push 6 push 7 push 8 add write back catch a b c Error", 1, 15);
        // the locals are as they were
        gives("push 6 store 0 a : push 7 store 0 null length store 0 b : back c : pop load 0 write back catch a b c Error", 7);
    }

    private static void thrownByTheCall() {
        C.sentence("Without one the body ends, and the object is thrown by the call");
        String q = "static q ( ) none 0 { a : call Main.r b : back c : is NullError write back catch a b c NullError } "
            + "static r ( ) none 0 { read push 0 eq n null throw n : push 1 push 0 div pop back } ";
        SafeCode x = load("a : call Main.q b : push 5 write back c : is DivideError write back catch a b c DivideError", q);
        x.input(1);
        C.due("run", x.run(99), 0);
        puts(x, 1, 5);
        C.due("run", x.run(99), 0);
        puts(x, 1);
        // the call's own catches are asked, not those of instructions beside it
        x = load("a : read pop b : call Main.r d : back c : pop back catch a b c Error", q);
        ends(x, 99, 1, 9, 18);
    }

    private static void steps() {
        C.sentence("STEPS: each instruction that is begun is one (also one that raises an error)");
        ends(load("back"), 20000, 0, 1, 0);
        ends(load("goto a a : back"), 20000, 0, 2, 1);
        ends(load("a : push 1 push 0 div b : back c : pop back catch a b c Error"), 20000, 0, 5, 5);
        ends(load("null throw"), 20000, 1, 2, 1);
        ends(load("call Main.q back", "static q ( ) none 0 { back } "), 20000, 0, 3, 1);
    }

    private static void fuel() {
        C.sentence("A run ends: outcome 0 main came to back; 1 an object was thrown out of main; 2 the step would be one more than the fuel");
        SafeCode x = load("push 1 write back");
        ends(x, 0, 2, 0, 0);
        ends(x, 1, 2, 1, 1);
        ends(x, 2, 2, 2, 2);
        ends(x, 3, 0, 3, 2);
        ends(x, 4, 0, 3, 2);
        x = load("null throw");
        ends(x, 1, 2, 1, 1);
        ends(x, 2, 1, 2, 1);
        // what would be next, behind a call, a back, a jump and a catch
        x = load("call Main.q a : goto b b : null throw c : pop back catch a c c Error", "static q ( ) none 0 { back } ");
        int[] next = {0, 6, 1, 2, 3, 4, 5};
        for (int fuel = 0; fuel < next.length; fuel++) {
            ends(x, fuel, 2, fuel, next[fuel]);
        }
        ends(x, 7, 0, 7, 5);
        x = load("a : goto a");
        ends(x, 20000, 2, 20000, 0);
        // back in another body than main ends no run
        ends(load("call Main.q call Main.q back", "static q ( ) none 0 { back } "), 99, 0, 5, 2);
        // main that is called ends but that call
        ends(load("read push 0 eq a call Main.main a : back"), 99, 0, 4, 4);
        x = load("read push 0 eq a call Main.main a : push 3 write back");
        x.input(7);
        ends(x, 99, 0, 4 + 6 + 3, 6);
        puts(x, 3, 3);
    }

    private static String loop(String lines) {
        return "read store 0 a : load 0 push 0 le b inc 0 -1 " + lines + " goto a b : push 7 write ";
    }

    private static void objectLimit() {
        C.sentence("3 the heap is full: a run makes at most 2000 objects");
        for (String make : new String[] {"new Object pop", "push 0 array int pop", "push 0 array A pop"}) {
            SafeCode x = load(loop(make) + "new Object pop push 8 write back");
            x.input(1998);
            C.due("run of 1999", x.run(20000), 0);
            puts(x, 7, 8);
            x.input(1999);
            C.due("run of 2000", x.run(20000), 0);
            puts(x, 7, 8);
            x.input(2000);
            C.due("run of 2001", x.run(20000), 3);
            puts(x, 7);
            C.due("thrown()", x.thrown(), -1);
            x.input(2001);
            C.due("run of 2002", x.run(20000), 3);
            puts(x);
            C.due("strays()", x.strays(), 0);
        }
        C.sentence("errors are objects too");
        SafeCode x = load("push 0 store 0 a : inc 0 1 null throw b : c : pop load 0 write load 0 push 2000 lt a push 8 write read push 0 eq d null throw d : push 9 write back "
            + "catch a b c Error");
        C.due("run of 2000", x.run(20000), 0);
        C.due("written()", x.written(), 2002);
        x.input(1);
        C.due("run of 2001", x.run(20000), 3);
        C.due("written()", x.written(), 2001);
        C.due("thrown()", x.thrown(), -1);
        C.due("strays()", x.strays(), 0);
        // each run begins with an empty heap
        C.due("run of 2000", x.run(20000), 0);
    }

    private static void cellLimit() {
        C.sentence("with 12000 fields and elements in all (one more: that instruction does nothing)");
        SafeCode x = load("read array int pop read array A pop new B pop new E pop push 1 write back");
        // a B has four fields, an E none
        int[][] runs = {{12000, 0, 3, 6}, {12001, 0, 3, 1}, {0, 12001, 3, 4}, {11996, 0, 0, 12}, {11997, 0, 3, 6}, {5000, 6996, 0, 12},
            {5000, 6997, 3, 6}, {5000, 7001, 3, 4}, {MAX, 0, 3, 1}, {1, MAX, 3, 4}, {12000, 1, 3, 4}, {0, 0, 0, 12}};
        for (int[] r : runs) {
            x.input(r[0]);
            x.input(r[1]);
            ends(x, 99, r[2], r[3] + 1, r[3]);
            C.due("written()", x.written(), r[2] == 0 ? 1 : 0);
            C.due("thrown()", x.thrown(), -1);
        }
        // what has no fields has room in a heap without any
        x = load("push 12000 array int pop new E pop push 0 array int pop a : null throw b : c : is NullError write push 1 array int pop back catch a b c Error");
        ends(x, 99, 3, 14, 13);
        puts(x, 1);
        // a class has the fields of those above it
        x = load("read array int pop new D pop back");
        x.input(11996);
        ends(x, 99, 0, 6, 5);
        x.input(11997);
        ends(x, 99, 3, 4, 3);
    }

    private static void doesNothing() {
        C.sentence("one more: that instruction does nothing");
        SafeCode x = load("a : push 12001 array int b : pop back c : pop push 4 write back catch a b c Error");
        ends(x, 99, 3, 2, 1);
        puts(x);
        C.due("thrown()", x.thrown(), -1);
        // an error that has no room is not thrown: no catch takes it
        x = load("push 0 store 0 d : new Object pop inc 0 1 load 0 push 2000 lt d a : push 1 push 0 div b : pop back c : pop push 4 write back catch a b c Error");
        ends(x, 20000, 3, 2 + 2000 * 6 + 3, 10);
        puts(x);
        C.due("thrown()", x.thrown(), -1);
    }

    private static void bodyLimit() {
        C.sentence("4 a 65th body would be run at a time");
        // 0 .. 2 main, 3 .. 12 q: q calls itself as often as its number tells, and then comes to the line at the bottom
        String q = "static q ( int ) none 1 { load 0 push 0 le z load 0 push 1 sub call Main.q back z : %s back } ";
        SafeCode x = load("read call Main.q back", String.format(q, "push 1 write"));
        x.input(62);
        C.due("64 bodies", x.run(20000), 0);
        puts(x, 1);
        C.due("steps()", x.steps(), 3 + 62 * 8 + 6);
        x.input(63);
        ends(x, 20000, 4, 2 + 63 * 7, 9);
        puts(x);
        C.due("thrown()", x.thrown(), -1);
        x.input(100);
        ends(x, 20000, 4, 2 + 63 * 7, 9);
        // a send likewise; but of null it raises an error first, and an error needs no body
        x = load("read call Main.q back", String.format(q, "new A push 1 send A.m pop"));
        x.input(61);
        C.due("64 bodies", x.run(20000), 0);
        x.input(62);
        ends(x, 20000, 4, 2 + 62 * 7 + 3 + 3, 13);
        x = load("read call Main.q back", String.format(q, "null push 1 send A.m pop"));
        x.input(62);
        ends(x, 20000, 1, 2 + 62 * 7 + 3 + 3, 13);
        C.due("thrown()", x.thrown(), 48);
        // bodies that ended, by an object that was thrown too, count no more
        x = load("push 0 store 0 a : push 62 call Main.q b : back c : pop inc 0 1 load 0 push 3 lt a push 5 write back catch a b c Error", String.format(q, "null throw"));
        C.due("run", x.run(20000), 0);
        puts(x, 5);
        C.due("strays()", x.strays(), 0);
    }

    private static void input() {
        C.sentence("Puts an int behind the input; false if it has 256");
        SafeCode x = load("a : read write goto a");
        for (int round = 0; round < 2; round++) {
            for (int k = 0; k < 256; k++) {
                C.due("input " + k, x.input(round * 1000 + k + 1), true);
            }
            C.due("input 256", x.input(5), false);
            C.due("input 257", x.input(6), false);
            C.due("run", x.run(771), 2);
            C.due("written()", x.written(), 257);
            for (int k = 0; k < 256; k++) {
                C.due("out(" + k + ")", x.out(k), round * 1000 + k + 1);
            }
        }
        C.sentence("Runs the program with the input, which is used up");
        x.input(3);
        C.due("run(0)", x.run(0), 2);
        C.due("run(3)", x.run(3), 2);
        puts(x, 0);
        // a load and a fault leave it
        x.input(4);
        x.load();
        Checks.load(x, Checks.main(0, "read write back"));
        C.due("run(3)", x.run(3), 0);
        puts(x, 4);
        // and it is there before there is a program
        x = new SafeCode();
        C.due("input", x.input(9), true);
        C.due("run without a program", x.run(3), -1);
        Checks.load(x, Checks.main(0, "read write back"));
        C.due("run(3)", x.run(3), 0);
        puts(x, 9);
    }

    private static void refusedRuns() {
        C.sentence("this fuel 0 .. 20000: the outcome; -1 if there is no program or the fuel is another number");
        SafeCode x = load("read write a : goto a");
        for (int fuel : new int[] {MIN, -20000, -1, 20001, 20002, MAX}) {
            C.due("run(" + fuel + ")", x.run(fuel), -1);
        }
        ends(x, 0, 2, 0, 0);
        ends(x, 20000, 2, 20000, 2);
        C.sentence("A call that is refused changes nothing (run)");
        x.input(77);
        C.due("run(2)", x.run(2), 2);
        puts(x, 77);
        x.input(78);
        for (int fuel : new int[] {-1, 20001}) {
            C.due("run(" + fuel + ")", x.run(fuel), -1);
            C.due("steps()", x.steps(), 2);
            C.due("place()", x.place(), 2);
            C.due("thrown()", x.thrown(), -1);
            puts(x, 77);
        }
        C.due("run(2)", x.run(2), 2);
        puts(x, 78);
        x = new SafeCode();
        C.due("run without a program", x.run(0), -1);
        C.due("run without a program", x.run(20000), -1);
        C.due("load of a fault", Checks.load(x, "class"), 2);
        C.due("run without a program", x.run(5), -1);
    }

    private static void stepsAndPlaces() {
        C.sentence("The steps of the latest run; 0 if there was none");
        SafeCode x = load("push 1 write null throw");
        C.due("steps()", x.steps(), 0);
        C.sentence("Of the latest run: the instruction at which it ended (outcomes 2: that would be next, 1: that threw it, in the body that threw it first), -1 if there was none");
        C.due("place()", x.place(), -1);
        ends(x, 3, 2, 3, 3);
        ends(x, 4, 1, 4, 3);
        ends(x, 0, 2, 0, 0);
        // a run of the program before is still the latest one
        C.due("run", x.run(2), 2);
        Checks.load(x, Checks.main(0, "goto a a : back"));
        C.due("steps()", x.steps(), 2);
        C.due("place()", x.place(), 2);
        ends(x, 9, 0, 2, 1);
        String q = "static q ( ) none 0 { call Main.r back } static r ( ) none 0 { new E throw } static t ( ) none 0 { a : call Main.r b : back c : throw catch a b c Error } ";
        ends(load("call Main.q back", q), 99, 1, 4, 5);
        ends(load("push 1 push 0 div pop back", q), 99, 1, 3, 2);
        // it was thrown again
        ends(load("call Main.t back", q), 99, 1, 5, 8);
    }

    private static void thrown() {
        C.sentence("The site of the object that was thrown out of main; -1 if the outcome was not 1");
        SafeCode x = load("read push 0 eq a new A pop new F throw a : read push 0 eq b push 1 push 0 div pop b : read push 0 eq c push 12001 array int pop c : "
            + "call Main.q back", "static q ( ) none 0 { read push 0 eq a call Main.q a : back } ");
        C.due("thrown()", x.thrown(), -1);
        int[][] runs = {{0, 0, 0, 0, 0, -1}, {1, 0, 0, 0, 1, 1}, {0, 0, 0, 0, 0, -1}, {0, 1, 0, 0, 1, 51}, {0, 0, 1, 0, 3, -1}, {1, 0, 0, 0, 1, 1}};
        for (int[] r : runs) {
            for (int k = 0; k < 4; k++) {
                x.input(r[k]);
            }
            C.due("run", x.run(999), r[4]);
            C.due("thrown()", x.thrown(), r[5]);
        }
        C.due("run(0)", x.run(0), 2);
        C.due("thrown()", x.thrown(), -1);
        x.input(1);
        C.due("run", x.run(999), 1);
        C.due("refused", x.run(-1), -1);
        C.due("thrown()", x.thrown(), 1);
        for (int k = 0; k < 100; k++) {
            x.input(k < 3 ? 0 : 1);
        }
        C.due("run too deep", x.run(999), 4);
        C.due("thrown()", x.thrown(), -1);
    }

    private static void written() {
        C.sentence("How many ints it put out");
        SafeCode x = load("push 0 store 0 a : inc 0 1 load 0 write load 0 read lt a back");
        C.due("written()", x.written(), 0);
        C.due("out(0)", x.out(0), 0);
        for (int many : new int[] {1, 2, 255, 256, 257, 300, 3000}) {
            SafeCode y = load("push 0 store 0 read store 1 a : inc 0 1 load 0 write load 0 load 1 lt a back");
            y.input(many);
            C.due("run", y.run(20000), 0);
            C.due("written()", y.written(), many);
            C.sentence("Int k of these; 0 if there is none, or k is above 255");
            for (int k : new int[] {MIN, -1, 0, 1, many - 2, many - 1, many, many + 1, 254, 255, 256, 257, MAX}) {
                C.due("out(" + k + ") of " + many, y.out(k), k >= 0 && k < many && k < 256 ? k + 1 : 0);
            }
            // a later run with less
            y.input(1);
            C.due("run", y.run(20000), 0);
            C.due("written()", y.written(), 1);
            C.due("out(0)", y.out(0), 1);
            C.due("out(1)", y.out(1), 0);
            C.due("out(255)", y.out(255), 0);
        }
    }

    private static void strays() {
        C.sentence("In a right system never (strays)");
        SafeCode x = new SafeCode();
        C.due("strays()", x.strays(), 0);
        Checks.load(x, Checks.main(2, "read store 0 load 0 push 0 lt z load 0 array int store 1 load 1 load 0 push 1 sub push 9 astore load 1 length write z : back"));
        for (int v : new int[] {MIN, -1, 0, 1, 2, 12000, 12001, MAX}) {
            x.input(v);
            C.due("run", x.run(99), v < 0 ? 0 : v == 0 ? 1 : v > 12000 ? 3 : 0);
            C.due("strays()", x.strays(), 0);
        }
    }
}
