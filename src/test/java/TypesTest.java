/** Promises 4 and 5: fault 4, by heights and by types. */
final class TypesTest {
    private static final Checks C = new Checks();
    private static final String HEAD = "class A of Object { field f int field g A method m ( int ) A 2 { load 0 give } } "
        + "class B of A { field h B[] } class E of Error { } "
        + "class Main of Object { static s ( int A ) int 2 { load 0 give } static t ( ) none 0 { back } ";

    public static void main(String[] args) {
        heights();
        heightsGoOn();
        heightsComeFirst();
        locals();
        numbers();
        references();
        arrays();
        members();
        results();
        joins();
        catches();
        notComeTo();
        C.close();
    }

    private static void load(String lines, int locals, int fault) {
        SafeCode x = new SafeCode();
        String text = HEAD + "static main ( ) none " + locals + " { " + lines + " } }";
        int at = -1;
        if (fault != 0) {
            at = text.substring(0, text.indexOf('@')).trim().split("\\s+").length;
        }
        C.due("load of " + lines, Checks.load(x, text.replace("@", "")), fault);
        C.due("faultAt of " + lines, x.faultAt(), at);
    }

    private static void fine(String lines) {
        load(lines, 4, 0);
    }

    private static void fault(String lines) {
        load(lines, 4, 4);
    }

    private static void heights() {
        fine("push 1 push 2 push 3 push 4 push 5 push 6 push 7 push 8 add store 0 back");
        fault("push 1 push 2 push 3 push 4 push 5 push 6 push 7 push 8 @push 9 back");
        fault("push 1 push 2 push 3 push 4 push 5 push 6 push 7 push 8 @dup back");
        fault("push 1 push 2 push 3 push 4 push 5 push 6 push 7 push 8 @read back");
        fine("push 1 push 2 push 3 push 4 push 5 push 6 push 7 push 8 swap neg call Main.t back");
        fault("@pop back");
        fault("push 1 @swap back");
        fault("@dup back");
        fault("null push 1 @astore back");
        fault("push 1 @call Main.s back");
        fault("push 1 @send A.m back");
        fault("@throw");
        fault("read push 0 lt a push 1 a : @back");
        fault("a : @push 1 goto a");
        fine("push 1 push 2 back");
    }

    private static void heightsGoOn() {
        // both heights go on, and the first instruction with two is told
        fault("read push 0 lt a push 1 a : @read write back");
        fault("goto b a : @read pop back b : push 1 read push 0 lt a pop goto a");
        // a height that is wrong goes on nowhere, not to a catch either
        fault("goto b a : push 1 pop back b : @pop c : goto a catch b c a Error");
    }

    private static void heightsComeFirst() {
        fault("push 1 isnull a a : @pop back");
        // body by body
        SafeCode x = new SafeCode();
        String text = "class Main of Object { static a ( ) none 1 { load 0 back } static main ( ) none 0 { pop back } }";
        C.due("load", Checks.load(x, text), 4);
        C.due("faultAt()", x.faultAt(), 12);
    }

    private static void locals() {
        fault("@load 0 back");
        fault("@inc 0 1 back");
        fault("null store 0 @inc 0 1 back");
        fine("push 1 store 0 inc 0 1 load 0 write back");
        fine("null store 0 push 1 store 0 inc 0 1 back");
        // what is unset may be stored and dropped, not loaded
        fault("read push 0 lt a null store 0 goto b a : push 1 store 0 b : @load 0 store 1 back");
        fine("read push 0 lt a null goto b a : push 1 b : store 0 back");
        fine("read push 0 lt a null goto b a : push 1 b : dup swap pop pop back");
        fault("read push 0 lt a null goto b a : push 1 b : @isnull c c : back");
    }

    private static void numbers() {
        fault("null push 1 @add back");
        fault("push 1 null @add back");
        fault("null @neg back");
        fault("push 1 null @lt a a : back");
        fault("null @write back");
        fault("null @array int back");
        // what is left is as told, whatever was taken
        fault("null @neg write back");
    }

    private static void references() {
        fault("push 1 @isnull a a : back");
        fault("null push 1 @same a a : back");
        fault("push 1 null @other a a : back");
        fault("push 1 @cast A back");
        fault("push 1 @is A back");
        fine("null null same a push 1 array int new A other a a : null is int[] write null cast A[] pop back");
        fault("new A @throw");
        fault("push 1 @throw");
        fine("null throw");
        fine("new E throw");
    }

    private static void arrays() {
        fault("new A @length back");
        fault("new A push 0 @aload back");
        fault("push 1 push 0 @aload back");
        fault("push 1 array int null @aload back");
        fine("push 1 array int push 0 aload write null length write push 1 array B push 0 aload get A.f pop back");
        // aload of null goes on nowhere
        fine("null push 0 aload push 1 add write push 1 isnull a a : back");
        fault("new A push 0 @aload load 0 back");
        fault("push 1 array A push 0 push 1 @astore back");
        fault("push 1 array int push 0 null @astore back");
        fault("push 1 array B push 0 new A @astore back");
        fine("push 1 array A push 0 new B astore push 1 array Object push 0 push 1 array int astore back");
        fine("null push 0 push 1 astore null push 0 null astore back");
        fault("null push 0 read push 0 lt a pop push 0 null goto b a : push 1 b : @astore back");
        fault("new A push 0 new A @astore back");
    }

    private static void members() {
        fault("push 1 @get A.f back");
        fault("new A @get B.f back");
        fine("new B get A.f pop new B get B.f pop null get A.g pop back");
        fault("new A null @put A.f back");
        fault("new A new E @put A.g back");
        fine("new A new B put A.g new B null put B.h new B push 1 array B put B.h back");
        fault("new B push 1 array A @put B.h back");
        fault("push 1 new E @call Main.s back");
        fault("null new A @call Main.s back");
        fine("push 1 new B call Main.s write push 1 null call Main.s write back");
        fault("new A push 1 @send B.m back");
        fine("new B push 1 send B.m push 2 send A.m pop back");
        fault("new A null @send A.m back");
        fault("new A push 1 send A.m @write back");
    }

    private static void results() {
        fault("push 1 @give");
        String[][] bodies = {
            {"int", "@back"}, {"int", "null @give"}, {"A", "push 1 @give"}, {"A", "new Object @give"}, {"none", "new A @give"},
            {"A[]", "push 1 array Object @give"}, {"Object", "push 1 @give"}};
        for (String[] b : bodies) {
            String text = HEAD + "static q ( ) " + b[0] + " 0 { " + b[1] + " } static main ( ) none 0 { back } }";
            SafeCode x = new SafeCode();
            int at = text.substring(0, text.indexOf('@')).trim().split("\\s+").length;
            C.due("load of " + b[1], Checks.load(x, text.replace("@", "")), 4);
            C.due("faultAt of " + b[1], x.faultAt(), at);
        }
        SafeCode x = new SafeCode();
        String text = HEAD + "static q ( ) Object 0 { push 1 array int give } static r ( ) A[] 0 { push 1 array B give } "
            + "static u ( ) int[] 0 { null give } static main ( ) none 0 { back } }";
        C.due("load", Checks.load(x, text), 0);
    }

    /** Two types meet at b : as the least that is above both. */
    private static void meet(String one, String two, String use, int fault) {
        load("read push 0 lt a " + one + " goto b a : " + two + " b : " + use + " pop back", 4, fault);
    }

    private static void joins() {
        meet("new A", "new B", "get A.f", 0);
        meet("new B", "null", "get B.f", 0);
        meet("new A", "new E", "@get A.f", 4);
        meet("new NullError", "new E", "dup throw", 0);
        meet("push 1 array A", "push 1 array B", "push 0 aload get A.f", 0);
        meet("push 1 array B", "push 1 array E", "push 0 aload @get A.f", 4);
        meet("push 1 array int", "push 1 array A", "@length", 4);
        meet("push 1 array int", "null", "push 0 aload push 1 add", 0);
        meet("push 1 array int", "new A", "cast A", 0);
        meet("push 1", "push 2", "push 1 add", 0);
        meet("push 1", "null", "@neg", 4);
    }

    private static void catches() {
        // all instructions from FROM up to before TO lead to AT, with their locals before them
        fault("a : push 1 store 0 b : back h : pop @load 0 write back catch a b h Error");
        fine("push 5 store 0 a : push 1 store 0 b : back h : pop load 0 write back catch a b h Error");
        fault("push 1 store 0 a : null store 0 read write b : back h : pop @inc 0 1 back catch a b h Error");
        fine("push 1 store 0 a : null store 0 b : back h : pop inc 0 1 back catch a b h Error");
        fine("a : read write b : back h : throw catch a b h E");
        fault("a : read write b : back h : @neg throw catch a b h E");
        fault("a : read write b : back h : pop @pop back catch a b h E");
        fault("a : read write b : push 1 push 2 h : @pop back catch a b h E");
    }

    private static void notComeTo() {
        fine("back a : pop pop load 0 goto a");
        fine("null push 0 aload inc 0 1 load 1 back");
    }
}
