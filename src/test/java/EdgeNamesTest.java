/** Terms 3 with promises 4 and 5, sentence by sentence: each name that is wrong, at its token, and each limit. */
final class EdgeNamesTest {
    private static final Checks C = new Checks();
    private static final String MAIN = Checks.main(0, "back") + " ";
    private static final String A = "class A of Object { ";
    private static final String[] KNOWN =
        {"Object", "Error", "NullError", "IndexError", "SizeError", "DivideError", "CastError", "StoreError"};

    public static void main(String[] args) {
        knownClasses();
        classNames();
        classLimit();
        supers();
        fieldNames();
        fieldLimit();
        bodyNames();
        bodyLimit();
        missingTypes();
        locals();
        labelTwice();
        catchLimit();
        catchLabels();
        catchOrder();
        catchHandler();
        catchClass();
        instructionLimit();
        siteLimit();
        localNumbers();
        jumpLabels();
        missingClasses();
        fieldReferences();
        bodyReferences();
        bodyEnds();
        noMain();
        walks();
        numbered();
        C.close();
    }

    private static void fault(String marked) {
        C.fault(3, marked);
    }

    private static void knownClasses() {
        C.sentence("KNOWN CLASSES: Object; Error of Object; NullError .. StoreError of Error; they have no members");
        for (String k : KNOWN) {
            boolean error = !k.equals("Object");
            C.fine("class A of " + k + " { } " + MAIN);
            C.fine(Checks.main(0, "new " + k + " pop back"));
            String text = Checks.main(0, "a : read write b : back c : pop back catch a b c " + k);
            C.fault(error ? 0 : 3, error ? -1 : Checks.tokens(text) - 3, text);
            C.fault(error ? 0 : 4, error ? -1 : 14, Checks.main(0, "new " + k + " throw"));
            fault(Checks.main(0, "null get @" + k + ".f back"));
            fault(Checks.main(0, "call @" + k + ".f back"));
            fault(Checks.main(0, "null send @" + k + ".f back"));
        }
    }

    private static void classNames() {
        C.sentence("first the classes: one of the name of a known or an earlier class .. at its name");
        for (String k : KNOWN) {
            fault(MAIN + "class @" + k + " of Object { }");
        }
        fault(MAIN + A + "} class @A of Object { }");
        fault(MAIN + A + "} class @A of Nope { }");
        fault("class Main of Object { } " + MAIN.replace("Main", "@Main"));
        C.fine(MAIN + A + "} class AA of Object { } class B of Object { }");
    }

    private static String classes(int many) {
        StringBuilder all = new StringBuilder(MAIN);
        for (int k = 1; k < many; k++) {
            all.append("class A").append(k).append(" of ").append(k == 1 ? "Object" : "A" + (k - 1)).append(" { } ");
        }
        return all.toString();
    }

    private static void classLimit() {
        C.sentence("or a 25th, at its name");
        C.due("size(4)", C.fine(classes(24)).size(4), 24);
        fault(classes(24) + "class @B of Object { }");
        fault(classes(24) + "class @B of Nope { }");
        fault(classes(24) + "class @B of Object { } class A1 of Nope { }");
        // the last one can be used as any other
        C.fine(classes(23) + "class B of A22 { field f B method m ( B B[] ) B 3 { new B dup get B.f pop give } }");
    }

    private static void supers() {
        C.sentence("a SUPER that is no known or earlier class, at that");
        fault(MAIN + "class A of @B { } class B of Object { }");
        fault(MAIN + "class A of @A { }");
        fault("class A of @Main { } " + MAIN);
        C.fine(MAIN + "class A of Main { } class B of A { }");
    }

    private static void fieldNames() {
        C.sentence("at its name a field whose class, or one above it, has a field of that name");
        fault(MAIN + A + "field f int field @f int }");
        fault(MAIN + A + "field f int field @f Nope }");
        fault(MAIN + A + "field f int } class B of A { field @f int }");
        fault(MAIN + A + "field f int } class B of A { } class C of B { field g int field @f A }");
        C.fine(MAIN + A + "field f int } class B of Object { field f int } class C of B { field g int }");
        // one below it does not count, nor a body of that name
        C.fine(MAIN + A + "} class B of A { field f int } class C of A { field f int }");
        C.fine(MAIN + A + "static f ( ) none 0 { back } field f int method g ( ) none 1 { back } field g int }");
    }

    private static void fieldLimit() {
        C.sentence("or that is the 49th of all (a field)");
        StringBuilder many = new StringBuilder(MAIN);
        for (int c = 0; c < 11; c++) {
            many.append("class A").append(c).append(c % 2 == 0 ? " of Object" : " of A" + (c - 1)).append(" { ");
            for (int f = 0; f < 4; f++) {
                many.append("field f").append(c).append(f).append(" int ");
            }
            many.append("} ");
        }
        // 44, and four more
        String last = "class B of A10 { field a int field b int field c B[] field d int ";
        C.fine(many + last + "}");
        fault(many + last + "field @e int }");
        fault(many + last + "field @a int }");
        fault(many + last + "field @e Nope }");
        fault(many + last + "} class C of Object { static s ( ) none 0 { load 9 } field @a int }");
    }

    private static void bodyNames() {
        C.sentence("a static or method whose class has one of that name already");
        String[] heads = {"static m ( ) none 1 { back } ", "method m ( ) none 1 { back } "};
        for (String one : heads) {
            for (String two : heads) {
                fault(MAIN + A + one + two.replace("m (", "@m (") + "}");
            }
        }
        C.sentence("or one above it (the nearest) but not as a method for a method with the same types and result");
        String up = MAIN + A + "method m ( int A[] ) A 3 { null give } } class B of A { } class C of B { ";
        C.fine(up + "method m ( int A[] ) A 12 { null give } }");
        for (String head : new String[] {"method m ( int A[] ) B 3", "method m ( int A[] ) none 3", "method m ( int A ) A 3",
            "method m ( int int[] ) A 3", "method m ( A A[] ) A 3", "method m ( int ) A 3", "method m ( int A[] int ) A 4", "method m ( A[] int ) A 3",
            "method m ( ) A 3", "method m ( int Nope ) A 3", "method m ( int A[] ) Nope 3", "static m ( int A[] ) A 3",
            "static m ( A int A[] ) A 3"}) {
            fault(up + head.replace("m (", "@m (") + " { null give } }");
        }
        String statics = MAIN + A + "static m ( ) none 1 { back } } class B of A { ";
        for (String head : heads) {
            fault(statics + head.replace("m (", "@m (") + "}");
            C.fine(MAIN + A + head + "} class B of Object { " + heads[0] + "} class C of Object { " + heads[1] + "}");
        }
        C.fine(MAIN + A + "method m ( ) none 1 { back } } class B of A { method m ( ) none 1 { back } } class C of B { method m ( ) none 1 { back } }");
        // one below it and a field of that name do not count
        C.fine(MAIN + A + "field m int } class B of A { method m ( ) none 1 { back } } class C of A { static m ( ) none 0 { back } }");
    }

    private static String bodies(int many) {
        StringBuilder all = new StringBuilder(MAIN).append(A);
        for (int k = 1; k < many; k++) {
            all.append(k % 2 == 0 ? "static" : "method").append(" m").append(k).append(" ( ) none 1 { back } ");
        }
        return all.append("} ").toString();
    }

    private static void bodyLimit() {
        C.sentence("or that is the 49th of all (a static or method)");
        C.due("size(2)", C.fine(bodies(48)).size(2), 48);
        fault(bodies(48) + "class B of Object { static @s ( ) none 0 { back } }");
        fault(bodies(48) + "class B of Object { method @s ( Nope ) Nope 13 { } }");
        fault(bodies(48) + "class B of A { method @m1 ( ) none 1 { back } }");
        C.fine(bodies(47) + "class B of A { method m1 ( ) none 1 { back } field f int }");
    }

    private static void missingTypes() {
        C.sentence("at the type one of a class that is not there (the types from the left, then the result)");
        fault(MAIN + A + "field f @B }");
        fault(MAIN + A + "field f @B[] }");
        fault(MAIN + A + "static s ( @B C ) D 13 { back } }");
        fault(MAIN + A + "static s ( A @C[] B ) D 13 { back } }");
        fault(MAIN + A + "static s ( A A[] int int[] ) @D 13 { back } }");
        fault(MAIN + A + "method s ( A ) @D[] 0 { back } }");
        // known, earlier and later classes are there
        C.fine(MAIN + A + "field f B field g Object[] static s ( B Error[] ) A[] 2 { null give } } class B of Object { }");
    }

    private static void locals() {
        C.sentence("at LOCALS a number not 0 .. 12 or below the number of the types (and one more for a method)");
        for (int n = -2; n < 15; n++) {
            boolean fine = n >= 0 && n <= 12;
            String text = MAIN + A + "static s ( ) none @" + n + " { back } }";
            locals(text, fine);
            for (int types = 0; types < 13; types += types < 2 ? 1 : 5) {
                String all = "int ".repeat(types);
                locals(MAIN + A + "static s ( " + all + ") none @" + n + " { back } }", fine && n >= types);
                locals(MAIN + A + "method s ( " + all + ") none @" + n + " { back } }", fine && n >= types + 1);
            }
        }
        fault(MAIN + A + "static s ( ) none @2147483647 { back } }");
        fault(MAIN + A + "static s ( ) none @-2147483648 { back } }");
        fault(MAIN + A + "static s ( " + "int ".repeat(40) + ") none @12 { back } }");
    }

    private static void locals(String marked, boolean fine) {
        if (fine) {
            C.fine(marked.replace("@", ""));
        } else {
            fault(marked);
        }
    }

    private static String body(String lines) {
        return MAIN + A + "field f int static s ( int ) none 3 { " + lines + " } method m ( ) none 1 { back } } class B of A { }";
    }

    private static void labelTwice() {
        C.sentence("at its name a label that the body has before");
        fault(body("a : @a : back"));
        fault(body("a : back b : @a :"));
        fault(body("goto a a : b : back @b : @a :".replace("@a", "a")));
        C.fine(MAIN + A + "static s ( ) none 0 { a : back } static t ( ) none 0 { a : back } }");
        C.fine(body("f : s : m : a : back"));
    }

    private static void catchLimit() {
        C.sentence("at catch the 65th of all");
        String one = "a : read write b : back c : pop back ";
        String many = "catch a b c Error ".repeat(63);
        String first = MAIN + A + "static s ( ) none 0 { " + one + many + "} static t ( ) none 0 { " + one + "catch a b c Error ";
        C.fine(first + "} }");
        fault(first + "@catch a b c Error } }");
        fault(first + "@catch x y z Nope } }");
        fault(first + "} static u ( ) none 0 { @catch a b c Error " + one + "} }");
    }

    private static void catchLabels() {
        C.sentence("at FROM, TO or AT a label that the body does not have (before or behind)");
        String before = "a : read write b : back c : pop back ";
        for (String text : new String[] {before + "catch a b c Error", "catch a b c Error " + before,
            "a : read write catch a b c Error b : back c : pop back"}) {
            C.fine(body(text));
            fault(body(text.replace("catch a b c", "catch @x b c")));
            fault(body(text.replace("catch a b c", "catch a @x c")));
            fault(body(text.replace("catch a b c", "catch a b @x")));
            fault(body(text.replace("catch a b c Error", "catch @x y z Nope")));
        }
        // a label of another body is not there
        fault(MAIN + A + "static s ( ) none 0 { a : read write b : back c : pop back } "
            + "static t ( ) none 0 { catch @a b c Error d : read write e : back } }");
        fault(MAIN + A + "static s ( ) none 0 { catch a @e c Error a : read write b : back c : pop back } static t ( ) none 0 { e : back } }");
    }

    private static void catchOrder() {
        C.sentence("at TO one not behind FROM (with no instruction between)");
        String lines = " a : aa : read write b : bb : back c : pop back z :";
        C.fine(body("catch a b c Error" + lines));
        C.fine(body("catch aa bb c Error" + lines));
        C.fine(body("catch a z c Error" + lines));
        C.fine(body("catch c z c Error" + lines));
        fault(body("catch a @a c Error" + lines));
        fault(body("catch a @aa c Error" + lines));
        fault(body("catch aa @a c Error" + lines));
        fault(body("catch b @a c Error" + lines));
        fault(body("catch z @a c Error" + lines));
        fault(body("catch z @z c Error" + lines));
        fault(body("catch a @a x Nope" + lines));
        // one instruction between is enough
        C.fine(body("a : goto b b : back c : pop back catch a b c Error"));
        // a catch and a label are no instruction
        fault(body("a : catch a @b c Error d : b : read write back c : pop back"));
    }

    private static void catchHandler() {
        C.sentence("at AT one behind the last instruction");
        fault(body("catch a b @c Error a : read write b : back c :"));
        fault(body("catch a b @c Nope a : read write b : back c : d :"));
        C.fine(body("catch a b c Error a : read write goto b b : goto d c : pop d : back"));
        // a catch may have its own AT between FROM and TO
        C.fine(body("catch a b a Error goto b a : pop goto b b : back"));
    }

    private static void catchClass() {
        C.sentence("at CLASS a class that is not there or not Error or below it");
        String lines = " a : read write b : back c : pop back";
        fault(body("catch a b c @Nope" + lines));
        fault(body("catch a b c @Object" + lines));
        fault(body("catch a b c @A" + lines));
        C.fine(body("catch a b c Error" + lines));
        C.fine(body("catch a b c E catch a b c F" + lines) + " class E of Error { } class F of E { }");
        fault(body("catch a b c @E" + lines) + " class E of Object { }");
    }

    private static void instructionLimit() {
        C.sentence("at the instruction's word the 1025th of all");
        String half = "static s ( ) none 0 { " + "push 1 pop ".repeat(255) + "goto a a : back } ";
        String rest = "static t ( ) none 0 { " + "push 1 pop ".repeat(255);
        // 512 and 510 of two bodies, and one of main
        C.due("size(0)", C.fine(MAIN + A + half + rest + "back } }").size(0), 1024);
        fault(MAIN + A + half + rest + "goto a a : @back } }");
        fault(MAIN + A + half + rest + "goto a a : @goto x } }");
        fault(MAIN + A + half + rest + "back } static u ( ) none 0 { @back } }");
        fault(MAIN + A + half + rest + "back } static u ( ) none 0 { @load 99 } }");
        fault(MAIN + A + half + rest + "back } static u ( ) none 0 { @} }");
        // the last one can be a target, and is proved and run as any other
        String last = Checks.main(0, "goto z a : " + "push 1 pop ".repeat(510) + "goto a z : goto y y : back");
        SafeCode x = C.fine(last);
        C.due("size(0)", x.size(0), 1024);
        C.due("errors(1023)", x.errors(1023), 768);
        C.due("errors(1024)", x.errors(1024), -1);
        C.due("run", x.run(9), 0);
        C.due("place()", x.place(), 1023);
    }

    private static void siteLimit() {
        C.sentence("or the 49th new or array of all");
        String most = "new A pop push 1 array int pop ".repeat(23) + "new A pop ";
        String first = MAIN + A + "static s ( ) none 0 { " + most + "back } static t ( ) none 0 { ";
        C.due("size(1)", C.fine(first + "new A pop back } }").size(1), 48);
        C.fine(first + "push 1 array A pop back } }");
        fault(first + "new A pop @new A pop back } }");
        fault(first + "new A pop @new Nope pop back } }");
        fault(first + "new A pop push 1 @array Nope pop back } }");
        fault(first + "push 1 array A pop push 1 @array int pop back } }");
    }

    private static void localNumbers() {
        C.sentence("at K a number that is not 0 .. LOCALS - 1");
        for (int locals = 0; locals <= 12; locals += locals < 2 ? 1 : 5) {
            for (int k = -1; k <= locals + 1; k++) {
                boolean fine = k >= 0 && k < locals;
                locals(Checks.main(locals, "push 1 store @" + k + " back"), fine);
                String[] uses = {"load @" + k + " pop", "inc @" + k + " 1"};
                for (String use : uses) {
                    String set = fine ? "push 1 store " + k + " " : "";
                    locals(Checks.main(locals, set + use + " back"), fine);
                }
            }
        }
        fault(Checks.main(12, "load @12 back"));
        fault(Checks.main(12, "inc @2147483647 1 back"));
        fault(Checks.main(12, "store @-2147483648 back"));
        // inc tells its local's fault before anything of its number
        C.fine(Checks.main(1, "push 1 store 0 inc 0 99 back"));
    }

    private static void jumpLabels() {
        C.sentence("at L a label that the body does not have or that stands behind the last instruction");
        for (String op : "goto eq ne lt le gt ge isnull notnull same other".split(" ")) {
            String take = op.equals("goto") ? "" : op.endsWith("null") ? "null " : op.equals("same") || op.equals("other") ? "null null " : "read read ";
            fault(body(take + op + " @x back"));
            fault(body(take + op + " @x back x :"));
            fault(body(take + op + " @x back x : y :"));
            C.fine(body(take + op + " x x : back"));
            C.fine(body("x : " + take + op + " x back"));
        }
        fault(MAIN + A + "static s ( ) none 0 { x : back } static t ( ) none 0 { goto @x } }");
        fault(MAIN + A + "static s ( ) none 0 { goto @x } static t ( ) none 0 { x : back } }");
    }

    private static void missingClasses() {
        C.sentence("at C, E, T a class that is not there");
        fault(body("new @Nope pop back"));
        fault(body("push 1 array @Nope pop back"));
        fault(body("null cast @Nope pop back"));
        fault(body("null cast @Nope[] pop back"));
        fault(body("null is @Nope pop back"));
        fault(body("null is @Nope[] pop back"));
        C.fine(body("new B pop push 1 array B pop push 1 array int pop null cast B pop null cast B[] pop null cast int[] pop "
            + "null is B pop null is B[] pop null is int[] pop null is Error[] pop back"));
    }

    private static void fieldReferences() {
        C.sentence("at F a class that is not there, or a field (get, put) .. that neither it nor one above it has");
        for (String op : new String[] {"get @", "push 1 put @"}) {
            fault(body("null " + op + "Nope.f back"));
            fault(body("null " + op + "A.g back"));
            fault(body("null " + op + "A.m back"));
            fault(body("null " + op + "A.s back"));
            fault(body("null " + op + "Main.f back"));
            C.fine(body("null " + op.replace("@", "") + "A.f" + (op.startsWith("get") ? " pop" : "") + " back"));
            C.fine(body("null " + op.replace("@", "") + "B.f" + (op.startsWith("get") ? " pop" : "") + " back"));
        }
        fault(MAIN + A + "static s ( ) none 0 { null get @A.f back } } class B of A { field f int }");
    }

    private static void bodyReferences() {
        C.sentence("static (call) or method (send) that neither it nor one above it has (the nearest one of that name counts, for call and send whatever it is)");
        fault(body("push 1 call @Nope.s back"));
        fault(body("push 1 call @A.t back"));
        fault(body("push 1 call @A.f back"));
        fault(body("push 1 call @A.m back"));
        fault(body("push 1 call @Main.s back"));
        fault(body("null send @Nope.m back"));
        fault(body("null send @A.n back"));
        fault(body("null send @A.f back"));
        fault(body("null send @A.s back"));
        fault(body("null send @B.s back"));
        fault(body("null call @B.m back"));
        C.fine(body("push 1 call A.s push 1 call B.s null send A.m null send B.m back"));
        // one below it does not count
        fault(MAIN + A + "static s ( ) none 0 { call @A.t back } } class B of A { static t ( ) none 0 { back } }");
        // a field of that name is no body, and nearer ones are taken first
        SafeCode x = C.fine(A + "static s ( ) none 0 { push 1 write back } method m ( ) none 1 { push 2 write back } } class B of A { field s int field m int "
            + "method m ( ) none 1 { push 3 write back } } class Main of B { static main ( ) none 0 { call Main.s new Main send Main.m back } }");
        C.due("run", x.run(100), 0);
        C.due("out(0)", x.out(0), 1);
        C.due("out(1)", x.out(1), 3);
    }

    private static void bodyEnds() {
        C.sentence("at the } of a body one that has no instruction or whose last one is not goto, throw, give or back");
        fault(MAIN + A + "static s ( ) none 0 { @} }");
        fault(MAIN + A + "static s ( ) none 0 { a : b : @} }");
        for (String last : new String[] {"push 1", "null", "load 0", "store 0", "inc 0 1", "dup", "pop", "swap", "add", "neg", "eq a", "isnull a", "same a",
            "new A", "array A", "length", "aload", "astore", "get A.f", "put A.f", "cast A", "is A", "call A.s", "send A.m", "read", "write"}) {
            fault(body("a : back " + last + " @"));
            fault(body("a : back " + last + " b : @"));
        }
        C.fine(body("a : goto a"));
        C.fine(body("null throw"));
        C.fine(body("back"));
        C.fine(body("back a : b :"));
        C.fine(MAIN + A + "static s ( ) int 0 { push 1 give } }");
        // in the order of the text it comes behind the lines of its body
        fault(MAIN + A + "static s ( ) none 0 { load @0 pop } static t ( ) none 0 { } }");
        fault(MAIN + A + "static s ( ) none 0 { push 1 @} static t ( ) none 0 { load 0 back } }");
    }

    private static void noMain() {
        C.sentence("At last, at the number of tokens: there is no class Main that has itself a static main with no types and the result none");
        fault("@");
        fault(A + "static main ( ) none 0 { back } } @");
        fault("class Main of Object { } @");
        fault("class Main of Object { field main int } @");
        fault("class Main of Object { static man ( ) none 0 { back } } @");
        fault("class Main of Object { method main ( ) none 1 { back } } @");
        fault("class Main of Object { static main ( int ) none 1 { back } } @");
        fault("class Main of Object { static main ( ) int 0 { push 1 give } } @");
        fault("class Main of Object { static main ( ) Main[] 0 { null give } } @");
        fault(A + "static main ( ) none 0 { back } } class Main of A { } @");
        fault("class Main of Object { } class B of Main { static main ( ) none 0 { back } } @");
        fault("class Mains of Object { static main ( ) none 0 { back } } @");
        C.fine("class Main of Error { field main int static main ( ) none 12 { back } }");
        // behind all other faults of names
        fault(A + "static s ( ) none 0 { goto @x } }");
        // and before those of types
        fault(A + "static s ( ) none 0 { pop back } } @");
    }

    private static void walks() {
        C.sentence("It is looked at in walks through the text, one behind the other; the first fault in a walk is told at its token");
        fault(A + "field f Nope static s ( ) none 99 { load 7 } } class B of @C { }");
        fault(A + "static s ( ) none 0 { load 7 } static t ( ) none @99 { } }");
        fault(A + "static s ( ) none 0 { goto x } } class B of Object { field f int field @f int }");
        fault(A + "static s ( ) none 0 { load @0 goto x } static t ( ) none 0 { } }");
        fault(A + "static s ( @X Y ) Z 13 { } static s ( ) none 0 { } }");
        fault(A + "field f @X field f int }");
        // fault 2 anywhere is told before all of them
        C.fault(2, A + "field f Nope } class A of Nope { @");
    }

    private static void numbered() {
        C.sentence("Instructions are NUMBERED from 0 in the order of the text");
        SafeCode x = C.fine(A + "static s ( ) none 0 { a : push 7 write back catch a b c Error b : c : pop back } } "
            + "class Main of Object { static main ( ) none 0 { call A.s x : push 9 write back } }");
        C.due("size(0)", x.size(0), 9);
        C.due("low(1, 12)", x.low(1, 12), 7);
        C.due("low(7, 12)", x.low(7, 12), 9);
        C.due("run", x.run(99), 0);
        C.due("place()", x.place(), 8);
    }
}
