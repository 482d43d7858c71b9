/** Promises 4 and 5: the faults 1 and 2, and their tokens. */
final class FormTest {
    private static final Checks C = new Checks();

    public static void main(String[] args) {
        bytes();
        blanks();
        classes();
        members();
        lines();
        labels();
        words();
        longTexts();
        C.close();
    }

    private static void fault(String text, int fault, int at) {
        SafeCode x = new SafeCode();
        C.due("load of " + text, Checks.load(x, text), fault);
        C.due("faultAt of " + text, x.faultAt(), at);
    }

    private static void bytes() {
        fault("\0", 1, 0);
        fault("class A\u007f", 1, 2);
        fault("class A \u0080", 1, 2);
        fault("class A { \u00ff }", 1, 3);
        fault("class ; A B \u000b\n C", 1, 1);
        fault("class;\n A:B\u0001", 1, 4);
        fault("; \u0002", 1, 0);
        fault("((\u0002", 1, 2);
        // a byte that none may have is told before all else
        fault("nonsense { \u001f", 1, 2);
        fault("~!\t\r\n", 2, 0);
    }

    private static void blanks() {
        fault("", 3, 0);
        fault(" \t\r\n ; all of it a remark : ( {", 3, 0);
        fault("class;x y z\nA of;\rB\nObject{}", 3, 6);
        fault("class A of Object{}", 3, 6);
        fault("class A of Object{};}", 3, 6);
        fault("class A of Object{}}", 2, 6);
    }

    private static void classes() {
        fault("klass", 2, 0);
        fault("class", 2, 1);
        fault("class a", 2, 1);
        fault("class A", 2, 2);
        fault("class A off", 2, 2);
        fault("class A of object", 2, 3);
        fault("class A of Object (", 2, 4);
        fault("class A of Object {", 2, 5);
        fault("class A of Object { }", 3, 6);
        fault("class A of Object { } class", 2, 7);
        fault("class A of Object { class", 2, 5);
        fault("class A[] of Object { }", 2, 1);
    }

    private static void members() {
        String a = "class A of Object { ";
        fault(a + "field F int }", 2, 6);
        fault(a + "field f Int[][] }", 2, 7);
        fault(a + "field f none }", 2, 7);
        fault(a + "field f }", 2, 7);
        fault(a + "field class int }", 3, 9);
        fault(a + "static m int", 2, 7);
        fault(a + "static M (", 2, 6);
        fault(a + "static m ( none )", 2, 8);
        fault(a + "static m ( int int[] A A[] ) 0", 2, 13);
        fault(a + "static m ( ) none none", 2, 10);
        fault(a + "static m ( ) int[] -1 }", 2, 11);
        fault(a + "static m ( ) none 0 { ", 2, 12);
        fault(a + "method m ( ) none 0 { }", 2, 13);
        fault(a + "static static ( ) none 0 { } }", 3, 12);
    }

    private static void line(String lines, int at) {
        fault("class A of Object { static m ( ) none 0 { " + lines, 2, 12 + at);
    }

    private static void lines() {
        line("push", 1);
        line("push }", 1);
        line("push a", 1);
        line("push 2147483648", 1);
        line("push -2147483649", 1);
        line("push 00000000001", 1);
        line("push --1", 1);
        line("push -", 1);
        line("push 0000000001 push -2147483648 push -0 x", 7);
        line("inc 1 }", 2);
        line("inc 1 x", 2);
        line("load x", 1);
        line("goto A", 1);
        line("new a", 1);
        line("new int", 1);
        line("array A[]", 1);
        line("array int array A x", 5);
        line("cast int", 1);
        line("cast int[] is A[] is A is int", 7);
        line("get A", 1);
        line("get A.", 1);
        line("get .a", 1);
        line("get A.B", 1);
        line("get a.b", 1);
        line("get A.b.c", 1);
        line("get A.b put A.b call A.b send A.b x", 9);
        line("catch a b c", 4);
        line("catch a b C", 3);
        line("catch a b c d", 4);
        line("catch a b c D x", 6);
        line("dup 1", 1);
        line("(", 0);
        line("{", 0);
        line(":", 0);
        line("Push 1", 0);
        line("1", 0);
        line("class A", 1);
    }

    private static void labels() {
        // a name could be a label: what stands behind it can't
        line("x", 1);
        line("jump x", 1);
        line("jump }", 1);
        line("jump : }", 3);
        line("X :", 0);
        line("1 :", 0);
        line("push : push 1 dup : dup catch : a : : ", 11);
        line("goto x :", 2);
        line("push 1 :", 2);
        line("catch a b c D :", 5);
        fault("class A of Object { static m ( ) none 0 { push : goto push } }", 3, 18);
    }

    private static void words() {
        String name = "a23456789_123456789_1234";
        fault("class A of Object { field " + name + " int }", 3, 9);
        fault("class A of Object { field " + name + "5 int }", 2, 6);
        fault("class A" + name.substring(1) + " of Object { }", 3, 6);
        fault("class A" + name.substring(1) + "5 of Object { }", 2, 1);
        fault("class A_9z of Object { field f_9Z A_9z[] }", 3, 9);
        fault("class A$ of Object { }", 2, 1);
        fault("class A of Object { field f A" + name.substring(1) + "[] }", 3, 7);
        fault("class A of Object { field f A" + name.substring(1) + "5[] }", 2, 7);
        fault("class A of Object { field _f int }", 2, 6);
    }

    private static void longTexts() {
        fault("(".repeat(16000), 2, 0);
        fault("x".repeat(16000), 2, 0);
        StringBuilder many = new StringBuilder("class A of Object { static m ( ) none 0 { ");
        int n = 0;
        while (many.length() < 15950) {
            many.append("call A").append(Integer.toString(n, 36)).append(".a").append(Integer.toString(n, 36)).append(' ');
            n++;
        }
        fault(many.toString(), 2, 12 + 2 * n);
        many = new StringBuilder("class A of Object { static m ( ) none 0 { ");
        n = 0;
        while (many.length() < 15950) {
            many.append('a').append(Integer.toString(n, 36)).append(':');
            n++;
        }
        many.append("back}}");
        fault(many.toString(), 3, 12 + 2 * n + 3);
    }
}
