/** Promises 4 and 5: fault 3, at each of its tokens, and the limits. */
final class NamesTest {
    private static final Checks C = new Checks();
    private static final String MAIN = "class Main of Object { static main ( ) none 0 { back } } ";

    public static void main(String[] args) {
        classes();
        classLimit();
        fields();
        bodies();
        memberLimits();
        types();
        labels();
        catches();
        operands();
        lineLimits();
        closing();
        mainIsThere();
        order();
        C.close();
    }

    /** The fault is at the word that is marked by an @. */
    private static void fault(String text) {
        SafeCode x = new SafeCode();
        int at = text.substring(0, text.indexOf('@')).trim().split("\\s+").length;
        at = text.trim().startsWith("@") ? 0 : at;
        C.due("load of " + text, Checks.load(x, text.replace("@", "")), 3);
        C.due("faultAt of " + text, x.faultAt(), at);
    }

    private static void fine(String text) {
        SafeCode x = new SafeCode();
        C.due("load of " + text, Checks.load(x, text), 0);
        C.due("faultAt of " + text, x.faultAt(), -1);
    }

    private static void classes() {
        fault("class @Object of Object { } " + MAIN);
        fault("class @StoreError of Error { } " + MAIN);
        fault("class A of @B { } class B of Object { } " + MAIN);
        fault("class A of @A { } " + MAIN);
        fault("class A of Object { } class @A of Error { } " + MAIN);
        fine("class A of NullError { } class B of A { } " + MAIN);
        fine("class Main of Error { static main ( ) none 0 { back } }");
    }

    private static void classLimit() {
        StringBuilder many = new StringBuilder(MAIN);
        for (int k = 1; k < 24; k++) {
            many.append("class A").append(k).append(" of ").append(k == 1 ? "Main" : "A" + (k - 1)).append(" { } ");
        }
        fine(many.toString());
        fault(many + "class @B of Nope { }");
    }

    private static void fields() {
        fault("class A of Object { field f int field @f A } " + MAIN);
        fault("class A of Object { field f int } class B of A { } class C of B { field @f int } " + MAIN);
        fine("class A of Object { field f int } class B of Object { field f int } " + MAIN);
        fine("class A of Object { field m int method m ( ) none 1 { back } } " + MAIN);
        fault("class A of Object { field f @B } " + MAIN);
        fault("class A of Object { field f @B[] } " + MAIN);
        fine("class A of Object { field f B field g B[] } class B of Object { } " + MAIN);
    }

    private static void bodies() {
        String m = "method m ( int A ) int 3 { push 1 give } ";
        fault("class A of Object { " + m + "method @m ( int A ) int 3 { push 1 give } } " + MAIN);
        fault("class A of Object { " + m + "static @m ( ) none 0 { back } } " + MAIN);
        String a = "class A of Object { " + m + "} class B of A { } class C of B { ";
        fine(a + m + "} " + MAIN);
        fault(a + "method @m ( int A ) none 3 { back } } " + MAIN);
        fault(a + "method @m ( int B ) int 3 { push 1 give } } " + MAIN);
        fault(a + "method @m ( int ) int 3 { push 1 give } } " + MAIN);
        fault(a + "method @m ( int Nope ) int 3 { push 1 give } } " + MAIN);
        fault(a + "static @m ( int A ) int 3 { push 1 give } } " + MAIN);
        String s = "class A of Object { static m ( ) none 0 { back } } class B of A { ";
        fault(s + "static @m ( ) none 0 { back } } " + MAIN);
        fault(s + "method @m ( ) none 1 { back } } " + MAIN);
        fine("class A of Object { static m ( ) none 0 { back } } class B of Object { static m ( ) none 0 { back } } " + MAIN);
    }

    private static void types() {
        String a = "class A of Object { ";
        fault(a + "static m ( int @B Nope ) Nope 13 { back } } " + MAIN);
        fault(a + "static m ( int A ) @B[] 13 { back } } " + MAIN);
        fault(a + "static m ( int A ) none @13 { back } } " + MAIN);
        fault(a + "static m ( int A ) none @1 { back } } " + MAIN);
        fault(a + "static m ( int A ) none @-1 { back } } " + MAIN);
        fault(a + "method m ( int A ) none @2 { back } } " + MAIN);
        fine(a + "method m ( int A ) none 3 { back } static n ( int A ) none 2 { back } } " + MAIN);
        fine(a + "method m ( int int int int int int int int int int int ) none 12 { back } } " + MAIN);
        fault(a + "method m ( int int int int int int int int int int int int ) none @12 { back } } " + MAIN);
        fault(a + "static m ( int int int int int int int int int int int int int int ) none @12 { back } } " + MAIN);
    }

    private static void memberLimits() {
        StringBuilder many = new StringBuilder("class A of Object { ");
        for (int k = 0; k < 48; k++) {
            many.append("field f").append(k).append(" int ");
        }
        fine(many + "} " + MAIN);
        fault(many + "} class B of Object { field @f Nope } " + MAIN);
        many = new StringBuilder(MAIN).append("class A of Object { ");
        for (int k = 0; k < 47; k++) {
            many.append("static f").append(k).append(" ( ) none 0 { back } ");
        }
        fine(many + "}");
        fault(many + "} class B of Object { method @f ( Nope ) none 0 { back } }");
    }

    private static String body(String lines) {
        return "class A of Object { field f int static s ( int ) none 3 { " + lines + " } method m ( ) none 1 { back } } "
            + "class B of A { } " + MAIN;
    }

    private static void labels() {
        fault(body("a : b : @a : back"));
        fault(body("goto @a back"));
        fault(body("goto @a back a :"));
        fine(body("goto a a : back b :"));
        fault("class A of Object { static s ( ) none 0 { a : back } static t ( ) none 0 { goto @a } } " + MAIN);
        fine("class A of Object { static s ( ) none 0 { a : back } static t ( ) none 0 { a : goto a } } " + MAIN);
        fault(body("read push 0 lt @x back"));
    }

    private static void catches() {
        fine(body("catch a b c Error a : read write b : back c : pop back"));
        fine(body("a : read write back c : pop back b : catch a b c DivideError"));
        fault(body("catch @x b c Error a : read write b : back c : pop back"));
        fault(body("catch a @x c Error a : read write b : back c : pop back"));
        fault(body("catch a b @x Error a : read write b : back c : pop back"));
        fault(body("catch b @a c Error a : read write b : back c : pop back"));
        fault(body("catch a @d c Error a : d : read write b : back c : pop back"));
        fault(body("catch a @a c Error a : read write b : back c : pop back"));
        fault(body("catch a b @c Error a : read write b : back c :"));
        fault(body("catch a b c @Nope a : read write b : back c : pop back"));
        fault(body("catch a b c @Object a : read write b : back c : pop back"));
        fault(body("catch a b c @A a : read write b : back c : pop back"));
        fault(body("catch e @e c Error a : read write b : back c : pop back e :"));
    }

    private static void operands() {
        fault(body("load @3 back"));
        fault(body("load @-1 back"));
        fault(body("store @3 back"));
        fault(body("inc @3 1 back"));
        fault(body("new @Nope back"));
        fault(body("push 1 array @Nope back"));
        fault(body("null cast @Nope[] back"));
        fault(body("null is @Nope back"));
        fault(body("null get @Nope.f back"));
        fault(body("null get @A.g back"));
        fault(body("null get @Object.f back"));
        fault(body("null push 1 put @A.m back"));
        fault(body("push 1 call @A.m back"));
        fault(body("push 1 call @A.f back"));
        fault(body("null send @A.s back"));
        fault(body("null send @Main.m back"));
        fine(body("null get B.f pop null push 1 put B.f push 1 call B.s null send B.m null cast A[] pop back"));
        // the nearest one of the name counts
        String two = "class A of Object { static s ( ) none 0 { back } } class B of A { field s int } ";
        fine(two + "class Main of B { static main ( ) none 0 { call Main.s null get Main.s pop back } }");
    }

    private static void lineLimits() {
        String push = "push 1 pop ".repeat(511);
        fine(Checks.main(0, push + "goto a a : back"));
        fault(Checks.main(0, push + "goto a a : goto a @back"));
        fault(Checks.main(0, push + "goto a a : goto a @new Nope back"));
        String makes = "new Main pop push 1 array int pop ".repeat(24);
        fine(Checks.main(0, makes + "back"));
        fault(Checks.main(0, makes + "@new Nope pop back"));
        fault(Checks.main(0, makes + "push 1 @array int pop back"));
        String c = "catch a b c Error ".repeat(64);
        fine(Checks.main(0, "a : read write b : back c : pop back " + c));
        fault(Checks.main(0, "a : read write b : back c : pop back " + c + "@catch x y z Nope"));
    }

    private static void closing() {
        fault("class A of Object { static s ( ) none 0 { @} } " + MAIN);
        fault("class A of Object { static s ( ) none 0 { a : @} } " + MAIN);
        fault("class A of Object { static s ( ) none 0 { back dup @} } " + MAIN);
        fault("class A of Object { static s ( ) none 0 { a : push 1 push 2 lt a @} } " + MAIN);
        fine("class A of Object { static s ( ) none 0 { a : goto a } static t ( Error ) int 1 { load 0 throw } } " + MAIN);
        fine("class A of Object { static s ( ) int 0 { push 1 give a : b : } } " + MAIN);
    }

    private static void mainIsThere() {
        fault("class A of Object { static main ( ) none 0 { back } } @");
        fault("class Main of Object { static main ( int ) none 1 { back } } @");
        fault("class Main of Object { static main ( ) int 1 { push 1 give } } @");
        fault("class Main of Object { method main ( ) none 1 { back } } @");
        fault("class Main of Object { field main int } @");
        fault("class A of Object { static main ( ) none 0 { back } } class Main of A { } @");
        fine(MAIN);
    }

    /** A walk is ended before the next one begins. */
    private static void order() {
        fault("class A of Object { field f Nope } class @A of Object { }");
        fault("class A of Object { static s ( ) none 0 { load 9 } field f @Nope }");
        fault("class A of Object { static s ( ) none 0 { @} field f int }");
        fault("class A of Object { static s ( ) none 0 { load @9 x : x : goto y } }");
    }
}
