/** Promises 7 to 15: what is proved of small programs. */
final class ProofTest {
    private static final Checks C = new Checks();
    private static final int MIN = Integer.MIN_VALUE;
    private static final int MAX = Integer.MAX_VALUE;
    private static final long NULL = 1L << 62;
    private static final String HEAD = "class A of Object { field n int field a A method m ( ) int 1 { push 1 give } } "
        + "class B of A { method m ( ) int 1 { push 2 give } } class E of Error { } ";

    public static void main(String[] args) {
        thresholds();
        arithmetic();
        bits();
        division();
        compares();
        lessAndUnder();
        sized();
        changing();
        nulls();
        sameAndOther();
        fields();
        arrays();
        storing();
        casting();
        calling();
        sending();
        catching();
        throwing();
        joining();
        notReached();
        C.close();
    }

    private static SafeCode load(String lines) {
        SafeCode x = new SafeCode();
        C.due("load of " + lines, Checks.load(x, HEAD + Checks.main(6, lines)), 0);
        return x;
    }

    /** Instructions of main begin behind the two of A.m and B.m each. */
    private static final int FIRST = 4;

    private static void range(SafeCode x, int i, int s, int low, int high) {
        String at = "(" + i + ", " + s + ")";
        C.due("kind" + at, x.kind(FIRST + i, s), 1);
        C.due("low" + at, x.low(FIRST + i, s), low);
        C.due("high" + at, x.high(FIRST + i, s), high);
        C.due("sites" + at, x.sites(FIRST + i, s), 0);
    }

    private static void refs(SafeCode x, int i, int s, long sites) {
        String at = "(" + i + ", " + s + ")";
        C.due("kind" + at, x.kind(FIRST + i, s), 2);
        C.due("sites" + at, x.sites(FIRST + i, s), sites);
        C.due("low" + at, x.low(FIRST + i, s), 0);
        C.due("high" + at, x.high(FIRST + i, s), 0);
    }

    private static void facts(SafeCode x, int i, int s, int copy, int less, int under, int length, int sized) {
        int[] due = {copy, less, under, length, sized};
        for (int which = 0; which < 5; which++) {
            C.due("fact(" + i + ", " + s + ", " + which + ")", x.fact(FIRST + i, s, which), due[which]);
        }
    }

    private static void errors(SafeCode x, int i, int due) {
        C.due("errors(" + i + ")", x.errors(FIRST + i), due);
    }

    /** The range of what the lines leave, looked at before a pop at the end. */
    private static void gives(String lines, int low, int high) {
        SafeCode x = load(lines + " pop back");
        int i = x.size(0) - 2 - FIRST;
        range(x, i, 12, low, high);
    }

    private static void thresholds() {
        gives("push 10", 10, 10);
        gives("push 10 push 1 add", 11, 11);
        gives("push 10 push 3 add", 11, MAX - 1);
        gives("push 10 push -13 add", -12, -1);
        gives("push 10 push -17 add", -16, -1);
        gives("push 10 push -30 add", -29, -1);
        gives("push 10 push -30 sub", 11, MAX - 1);
        gives("read", MIN, MAX);
        gives("push -10 push 20 mul", -2147483647, -11);
    }

    private static void arithmetic() {
        gives("push 2147483647 push 1 add", MIN, MAX);
        gives("push -2147483648 neg", MIN, MAX);
        gives("push 5 neg", -2147483647, -1);
        gives("push 5 neg push -5 pop", -5, -5);
        gives("push 65536 push 65536 mul", MIN, MAX);
        gives("push -1 push 1 mul", -1, -1);
        gives("push -2147483648 push 1 sub", MIN, MAX);
        // a range that is left by a loop: 0 to 10
        gives("push 0 store 0 a : load 0 push 10 ge b inc 0 1 goto a b : load 0", 10, 10);
        gives("push 0 store 0 a : load 0 push 10 eq b inc 0 1 goto a b : load 0", 10, 10);
        gives("push 0 store 0 a : read push 0 eq b load 0 push 10 ge b inc 0 1 goto a b : load 0", 0, 10);
        gives("push 0 store 0 a : read push 0 eq b load 0 push 10 ge b inc 0 1 goto a b : load 0 neg", -2147483647, 0);
        gives("push 0 store 0 a : read push 0 eq b load 0 push 3 ge b inc 0 1 goto a b : load 0 load 0 mul push 9 pop", 0, 9);
    }

    private static void bits() {
        String small = "read push 7 and ";
        gives(small, 0, 7);
        gives("read push 7 and read and", 0, 7);
        gives("read read and", MIN, MAX);
        gives("push 3 push 7 and", 0, 3);
        gives("push 5 push 2 or push 6 pop", 0, 7);
        gives("push 0 push 0 xor", 0, 0);
        gives("push 4 push 4 xor push 7 pop", 0, 7);
        gives("push 2147483647 push 4 or", 0, MAX);
        gives("push -1 push 4 or", MIN, MAX);
        gives("push 3 push 2 shl push 12 pop", 12, 12);
        gives("push 3 push 34 shl push 12 pop", 12, 12);
        gives("push 1 push 31 shl", MIN, MAX);
        gives("push -1 push 31 shl", MIN, MIN);
        gives("push 0 push 31 shl", 0, 0);
        gives("push 1 read shl", MIN, MAX);
        gives("push 12 push 2 shr", 3, 3);
        gives("push -12 push 34 shr", -11, -1);
        gives("push 12 read shr", 0, 12);
        gives("push -12 read shr", -12, -1);
    }

    private static void division() {
        gives("push 12 push 4 div", 3, 3);
        gives("push 12 push -4 div", -3, -3);
        gives("push -2147483648 push -1 div", MIN, MAX);
        gives("push 100 read div", -2147483647, 100);
        gives("push 100 read div push -100 pop", -100, 100);
        gives("read push 10 rem", -2147483647, 9);
        gives("read push 10 rem push -9 pop", -9, 9);
        gives("push 13 push 10 rem", 0, 9);
        gives("push 5 push 10 rem", 0, 5);
        gives("push -5 push 10 rem", -5, 0);
        gives("push 7 push -2147483648 rem", 0, 7);
        SafeCode x = load("push 1 read div pop push 1 push 2 div pop push 1 push 0 rem pop back");
        errors(x, 2, 256 + 8);
        errors(x, 6, 256);
        errors(x, 10, 256 + 512 + 8);
        errors(x, 11, 0);
        C.due("escapes(10)", x.escapes(FIRST + 10), 1L << 51);
        C.due("ends()", x.ends(), 1L << 51);
    }

    private static void compares() {
        SafeCode x = load("read store 0 load 0 push 10 lt a back a : load 0 push 0 ge b back b : back");
        range(x, 5, 0, 10, MAX);
        range(x, 6, 0, MIN, 9);
        range(x, 9, 0, MIN, -1);
        range(x, 10, 0, 0, 9);
        x = load("read store 0 load 0 push 10 le a back a : back");
        range(x, 5, 0, 11, MAX);
        range(x, 6, 0, MIN, 10);
        x = load("read store 0 push 10 load 0 gt a back a : back");
        range(x, 5, 0, 10, MAX);
        range(x, 6, 0, MIN, 9);
        x = load("read store 0 load 0 push 10 eq a back a : back");
        range(x, 5, 0, MIN, MAX);
        range(x, 6, 0, 10, 10);
        x = load("push 10 store 0 load 0 push 10 ne a back a : back");
        errors(x, 6, 0);
        errors(x, 5, 256 + 512);
        // an end that is the number is cut away
        x = load("read push 7 and store 0 load 0 push 0 ne a back a : push 0 load 0 ne b back b : back");
        range(x, 8, 0, 1, 7);
        x = load("read push 7 and store 0 load 0 push 7 ne a back a : back");
        range(x, 8, 0, 0, 6);
        range(x, 7, 0, 7, 7);
        x = load("read push 7 and store 0 load 0 push 5 ne a back a : back");
        range(x, 8, 0, 0, 7);
        // nothing is left on one way
        x = load("push 3 push 5 lt a back a : push 5 push 5 lt b back b : back");
        errors(x, 3, 0);
        errors(x, 4, 256);
        errors(x, 7, 256 + 512);
        errors(x, 8, 0);
    }

    private static void lessAndUnder() {
        // a < b for two locals, and an index that is below a length
        SafeCode x = load("read store 0 read store 1 load 0 load 1 lt a back a : load 0 pop load 1 load 0 gt b back b : back");
        facts(x, 8, 0, -1, 2, 0, 0, 0);
        facts(x, 9, 12, 0, 2, 0, 0, 0);
        facts(x, 7, 0, -1, 0, 0, 0, 0);
        // 1 <= 0 < 2 tells 1 < 2
        x = load("read store 0 read store 1 read store 2 load 0 load 2 ge a load 1 load 0 gt a back a : back");
        facts(x, 9, 0, -1, 4, 0, 0, 0);
        facts(x, 12, 1, -1, 4, 0, 0, 0);
        facts(x, 13, 1, -1, 0, 0, 0, 0);
        x = load("push 5 array int store 1 read store 0 load 0 push 0 lt z load 0 load 1 length ge z "
            + "load 1 load 0 aload pop load 1 load 0 push 3 astore z : back");
        facts(x, 11, 13, -1, 0, 0, 2, 0);
        range(x, 11, 13, 5, 5);
        facts(x, 12, 0, -1, 0, 2, 0, 0);
        range(x, 12, 0, 0, 4);
        errors(x, 14, 256);
        errors(x, 19, 256);
        // eq puts all together
        x = load("push 5 array int store 1 load 1 length store 0 read store 2 load 2 load 0 eq a back a : load 2 load 0 ge b back b : back");
        facts(x, 6, 0, -1, 0, 0, 2, 0);
        facts(x, 12, 2, -1, 0, 0, 2, 0);
        facts(x, 11, 2, -1, 0, 0, 0, 0);
    }

    private static void sized() {
        SafeCode x = load("read store 0 load 0 push 0 lt z load 0 array int store 1 push 0 store 2 "
            + "a : load 2 load 0 ge z load 1 load 2 aload pop inc 2 1 goto a z : back");
        facts(x, 7, 12, -1, 0, 0, 0, 1);
        facts(x, 8, 1, -1, 0, 0, 0, 1);
        range(x, 15, 13, 0, MAX - 1);
        facts(x, 15, 13, 2, 1, 0, 0, 0);
        facts(x, 15, 12, 1, 0, 0, 0, 1);
        errors(x, 15, 256);
        // behind the aload the local is under the array
        facts(x, 16, 2, -1, 1, 2, 0, 0);
        errors(x, 6, 256);
        C.due("lengths(0, 0)", x.lengths(0, 0), 0);
        C.due("lengths(0, 1)", x.lengths(0, 1), MAX);
        C.due("lengths(0, 2)", x.lengths(0, 2), -1);
        C.due("lengths(1, 0)", x.lengths(1, 0), -1);
        C.due("lengths(-1, 0)", x.lengths(-1, 0), -1);
        C.due("lengths(48, 0)", x.lengths(48, 0), -1);
    }

    private static void changing() {
        // a store or inc makes facts of the local go, also of what is stored
        SafeCode x = load("read store 0 read store 1 load 0 load 1 ge z load 0 inc 1 1 load 0 store 0 pop "
            + "load 0 load 1 ge z load 0 store 1 z : back");
        facts(x, 7, 0, -1, 2, 0, 0, 0);
        facts(x, 8, 12, 0, 2, 0, 0, 0);
        facts(x, 9, 12, 0, 0, 0, 0, 0);
        facts(x, 9, 0, -1, 0, 0, 0, 0);
        facts(x, 11, 12, -1, 0, 0, 0, 0);
        facts(x, 15, 0, -1, 2, 0, 0, 0);
        facts(x, 17, 1, -1, 0, 0, 0, 0);
        facts(x, 17, 0, -1, 0, 0, 0, 0);
        range(x, 9, 1, MIN, MAX);
    }

    private static void nulls() {
        SafeCode x = load("null store 0 read push 0 eq a new A store 0 a : load 0 isnull b load 0 get A.n write b : "
            + "load 0 get A.n write load 0 notnull c back c : back");
        refs(x, 7, 0, NULL | 1);
        refs(x, 9, 0, 1);
        errors(x, 10, 256);
        errors(x, 13, 256 + 1);
        refs(x, 14, 0, 1);
        errors(x, 17, 0);
        errors(x, 18, 256 + 512);
        x = load("null get A.n write back");
        errors(x, 1, 256 + 512 + 1);
        C.due("ends()", x.ends(), 1L << 48);
        // a copy whose local is null already goes on nowhere
        x = load("null store 0 read push 0 eq a new A store 0 a : load 0 load 0 isnull b pop back b : get A.n write back");
        refs(x, 12, 12, NULL | 1);
        refs(x, 12, 0, NULL);
        errors(x, 12, 256 + 512 + 1);
    }

    private static void sameAndOther() {
        SafeCode x = load("new A store 0 read push 0 eq a new B store 0 a : new A store 1 read push 0 eq b load 0 store 1 b : "
            + "load 0 load 1 same c back c : load 0 load 1 other d back d : back");
        refs(x, 16, 0, 3);
        refs(x, 16, 1, 7);
        refs(x, 17, 1, 7);
        refs(x, 18, 1, 3);
        refs(x, 18, 0, 3);
        refs(x, 21, 1, 3);
        refs(x, 22, 1, 3);
        x = load("new A new B same a back a : back");
        errors(x, 3, 256 + 512);
        errors(x, 4, 0);
    }

    private static void fields() {
        SafeCode x = load("new A store 0 new A store 1 load 0 push 5 put A.n load 1 get A.n pop load 0 get A.n pop "
            + "load 0 load 1 put A.a load 0 get A.a pop back");
        range(x, 9, 12, 0, 0);
        range(x, 12, 12, 0, 5);
        refs(x, 18, 12, NULL | 2);
        x = load("new B get A.a get A.n pop back");
        errors(x, 2, 256 + 512 + 1);
        x = load("null new A put A.a back");
        errors(x, 2, 256 + 512 + 1);
    }

    private static void arrays() {
        SafeCode x = load("push 3 array int dup push 2 aload pop dup push 3 aload pop dup push -1 aload pop pop back");
        errors(x, 4, 256);
        errors(x, 8, 256 + 512 + 2);
        C.due("escapes(8)", x.escapes(FIRST + 8), 1L << 49);
        x = load("push 3 array int read aload pop back");
        errors(x, 3, 256 + 2);
        x = load("read array int read aload pop back");
        errors(x, 1, 256 + 4);
        errors(x, 3, 256 + 2);
        x = load("push -1 array int pop back");
        errors(x, 1, 256 + 512 + 4);
        C.due("lengths(0, 0)", x.lengths(0, 0), -1);
        x = load("push 0 array A push 0 aload pop back");
        errors(x, 3, 256 + 512 + 2);
        x = load("null push 0 aload pop back");
        errors(x, 2, 256 + 512 + 1);
        x = load("null length pop back");
        errors(x, 1, 256 + 512 + 1);
        // two lengths of one site, and of two sites
        x = load("push 3 store 0 a : load 0 array A length pop read push 0 eq b push 7 store 0 goto a b : back");
        C.due("lengths(0, 0)", x.lengths(0, 0), 3);
        C.due("lengths(0, 1)", x.lengths(0, 1), 7);
        range(x, 5, 12, 3, 7);
        // the index's local is cut
        x = load("push 3 array int store 0 read store 1 load 0 load 1 aload pop back");
        range(x, 8, 1, 0, 2);
        facts(x, 8, 1, -1, 0, 1, 0, 0);
    }

    private static void storing() {
        SafeCode x = load("push 2 array A store 0 load 0 push 0 new B astore load 0 push 1 aload pop back");
        errors(x, 6, 256);
        refs(x, 10, 12, NULL | 2);
        x = load("push 2 array B cast A[] push 0 new A astore back");
        errors(x, 5, 256 + 512 + 32);
        C.due("ends()", x.ends(), 1L << 53);
        x = load("push 2 array B cast A[] store 0 new A store 1 read push 0 eq a new B store 1 a : load 0 push 0 load 1 astore "
            + "load 0 push 0 aload pop back");
        errors(x, 14, 256 + 32);
        refs(x, 18, 12, NULL | 4);
        x = load("push 2 array B cast A[] push 0 null astore back");
        errors(x, 5, 256);
        x = load("push 2 array int push 0 push 9 astore back");
        errors(x, 4, 256);
    }

    private static void casting() {
        SafeCode x = load("new A store 0 read push 0 eq a new B store 0 a : load 0 cast B pop back");
        errors(x, 8, 256 + 16);
        refs(x, 9, 12, 2);
        refs(x, 9, 0, 2);
        facts(x, 9, 12, 0, 0, 0, 0, 0);
        x = load("new A cast B pop back");
        errors(x, 1, 256 + 512 + 16);
        x = load("null cast B pop back");
        errors(x, 1, 256);
        refs(x, 2, 12, NULL);
        x = load("read store 0 load 0 array B cast Object cast A[] pop back");
        errors(x, 5, 256);
        facts(x, 6, 12, -1, 0, 0, 0, 1);
        x = load("new A is A pop new A is B pop null is A pop new A store 0 read push 0 eq a new B store 0 a : load 0 is B pop back");
        range(x, 2, 12, 1, 1);
        range(x, 5, 12, 0, 0);
        range(x, 8, 12, 0, 0);
        range(x, 18, 12, 0, 1);
        x = load("push 1 array B is Object pop push 1 array B is A[] pop push 1 array B is int[] pop back");
        range(x, 3, 12, 1, 1);
        range(x, 7, 12, 1, 1);
        range(x, 11, 12, 0, 0);
    }

    private static void calling() {
        SafeCode x = new SafeCode();
        String text = "class Main of Object { static main ( ) none 1 { push 3 call Main.f pop push 7 call Main.f pop call Main.g back } "
            + "static f ( int ) int 2 { load 0 push 0 lt z load 0 push 1 add give z : push 9 give } "
            + "static g ( ) none 0 { call Main.g back } static h ( ) none 0 { back } }";
        C.due("load", Checks.load(x, text), 0);
        C.due("low(8, 0)", x.low(8, 0), 3);
        C.due("high(8, 0)", x.high(8, 0), 7);
        C.due("kind(8, 1)", x.kind(8, 1), 0);
        C.due("errors(15)", x.errors(15), 0);
        C.due("low(2, 12)", x.low(2, 12), 4);
        C.due("high(2, 12)", x.high(2, 12), 8);
        C.due("errors(1)", x.errors(1), 256);
        // g never ends: behind its call nothing is reached
        C.due("errors(6)", x.errors(6), 768);
        C.due("errors(7)", x.errors(7), 0);
        C.due("errors(17)", x.errors(17), 768);
        C.due("errors(18)", x.errors(18), 0);
        C.due("errors(19)", x.errors(19), 0);
    }

    private static void sending() {
        SafeCode x = load("new B store 0 load 0 send A.m pop new A store 0 load 0 send A.m pop back");
        refs(x, 2 - FIRST, 0, 1);
        refs(x, 0 - FIRST, 0, 2);
        range(x, 4, 12, 2, 2);
        range(x, 9, 12, 1, 1);
        x = load("null store 0 read push 0 eq a new A store 0 a : load 0 send A.m pop load 0 send A.m pop back");
        errors(x, 8, 256 + 1);
        errors(x, 11, 256);
        refs(x, 0 - FIRST, 0, 1);
        C.due("errors(2)", x.errors(2), 0);
        x = load("null send A.m pop back");
        errors(x, 1, 256 + 512 + 1);
        C.due("errors(0)", x.errors(0), 0);
    }

    private static void catching() {
        SafeCode x = load("push 4 store 0 a : push 1 read div store 0 b : back h : pop load 0 write back "
            + "catch a b h NullError catch a b h DivideError");
        errors(x, 4, 256 + 8);
        C.due("escapes(4)", x.escapes(FIRST + 4), 0);
        C.due("ends()", x.ends(), 0);
        refs(x, 7, 12, 1L << 51);
        range(x, 7, 0, 4, 4);
        facts(x, 7, 12, -1, 0, 0, 0, 0);
        // the first catch takes what it can, the next one the rest
        x = load("a : null length pop push 1 read div pop new E throw b : back h : pop back i : pop back "
            + "catch a b h NullError catch a b i Error catch a b h E");
        refs(x, 10, 12, 1L << 48);
        errors(x, 2, 0);
        x = load("a : push 1 read div pop read push 0 eq b new E throw b : back h : pop back i : pop back "
            + "catch a b h NullError catch a b i Error catch a b h E");
        errors(x, 10, 0);
        refs(x, 12, 12, 1L << 51 | 1);
        // the locals are as they came, not as the instruction leaves them
        x = load("null store 0 read push 0 eq c new A store 0 c : a : load 0 get A.n pop b : back h : pop back catch a b h Error");
        refs(x, 11, 0, NULL | 1);
        refs(x, 9, 0, 1);
    }

    private static void throwing() {
        SafeCode x = load("new E throw");
        errors(x, 1, 256 + 512 + 64);
        C.due("escapes(1)", x.escapes(FIRST + 1), 1);
        C.due("ends()", x.ends(), 1);
        x = load("null throw");
        errors(x, 1, 256 + 512 + 1);
        x = load("null store 0 read push 0 eq a new E store 0 a : load 0 throw");
        errors(x, 8, 256 + 512 + 64 + 1);
        C.due("ends()", x.ends(), 1L << 48 | 1);
        x = new SafeCode();
        String text = "class Main of Object { static main ( ) none 0 { call Main.f back } static f ( ) none 0 { push 1 read div write back } }";
        C.due("load", Checks.load(x, text), 0);
        C.due("errors(0)", x.errors(0), 256 + 128);
        C.due("escapes(0)", x.escapes(0), 1L << 51);
        C.due("ends()", x.ends(), 1L << 51);
    }

    private static void joining() {
        SafeCode x = load("read push 0 eq a push 1 store 0 goto b a : null store 0 b : push 1 store 0 c : read push 0 eq d "
            + "load 0 goto c2 d : load 0 c2 : pop read store 1 read push 0 eq e load 0 goto f e : load 1 f : pop back");
        C.due("kind(8, 0)", x.kind(FIRST + 8, 0), 0);
        C.due("fact(8, 0, 0)", x.fact(FIRST + 8, 0, 0), -1);
        facts(x, 16, 12, 0, 0, 0, 0, 0);
        facts(x, 25, 12, -1, 0, 0, 0, 0);
        range(x, 25, 12, MIN, MAX);
    }

    private static void notReached() {
        SafeCode x = load("back a : push 1 pop goto a");
        for (int s = 0; s < 20; s++) {
            C.due("kind", x.kind(FIRST + 2, s), 0);
            C.due("fact", x.fact(FIRST + 2, s, 0), -1);
        }
        errors(x, 2, 0);
        errors(x, 0, 256 + 512);
        C.due("errors behind the last one", x.errors(FIRST + 4), -1);
        C.due("errors(-1)", x.errors(-1), -1);
        C.due("ends()", x.ends(), 0);
    }
}
