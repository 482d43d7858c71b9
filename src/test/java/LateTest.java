import java.util.Random;

/**
 * The least solution of texts in which it comes late: counters that grow one behind the other, each by one threshold a
 * time around a long loop, until the way to the next one is taken.
 */
final class LateTest {
    private static final Checks C = new Checks();
    private static final Against AGAINST = new Against();
    private static final int MAX = Integer.MAX_VALUE;
    private static final String HEAD = "class A of Object{field f int field g int}class Main of Object{"
        + "static up(int)int 1{load 0 push 1 add give}";
    private static final String BEGIN = "new A store 0 push 1 array int store 1 ";
    /** Ways to count in local 2. Those from HEAPED on count in the heap, before it is known whether they go on. */
    private static final String[] COUNTERS = {
        "inc 2 1 ",
        "load 2 push 2 add push 1 sub store 2 ",
        "load 2 call Main.up store 2 ",
        "load 2 array int length push 1 add store 2 ",
        "load 0 dup get A.f push 1 add dup store 2 put A.f ",
        "load 1 push 0 load 1 push 0 aload push 1 add dup store 2 astore ",
        "load 0 load 0 get A.g push 1 add put A.g load 0 get A.g store 2 ",
    };
    private static final int HEAPED = 4;

    public static void main(String[] args) {
        for (int kind = 0; kind < COUNTERS.length; kind++) {
            comesLate(kind);
        }
        Random random = new Random(5);
        for (int n = 0; n < 40; n++) {
            int[] kinds = new int[1 + random.nextInt(6)];
            for (int k = 0; k < kinds.length; k++) {
                kinds[k] = random.nextInt(COUNTERS.length);
            }
            String text = text(1 + random.nextInt(20), 1 + random.nextInt(12), kinds);
            AGAINST.hold(AGAINST.begin(), text, "text " + n);
        }
        fillsTheCalls();
        AGAINST.close();
        C.close();
    }

    /** Seven counters in locals, and one of this kind: its end is proved behind more than a million changes. */
    private static void comesLate(int kind) {
        int top = 451;
        String lines = counters(top, 0, 0, 0, 0, 0, 0, 0, kind);
        SafeCode x = new SafeCode();
        C.due("load, counter " + kind, Checks.load(x, text(top, 400, 0, 0, 0, 0, 0, 0, 0, kind)), 0);
        int back = instructions(HEAD) + instructions(lines);
        C.due("errors before the back, counter " + kind, x.errors(back - 1), 256);
        C.due("errors of the back, counter " + kind, x.errors(back), 768);
        C.due("low of the first local, counter " + kind, x.low(back, 2), top);
        C.due("high of the first local, counter " + kind, x.high(back, 2), MAX);
        C.due("low of the last local, counter " + kind, x.low(back, 9), top);
        C.due("high of the last local, counter " + kind, x.high(back, 9), kind < HEAPED ? top : MAX);
        C.due("errors behind the back, counter " + kind, x.errors(x.size(0) - 1), 0);
    }

    /** About as late as it can come in the text that can be fed in the 512 calls of an object. */
    private static void fillsTheCalls() {
        int top = 1801;
        StringBuilder s = new StringBuilder("class Main of Object{static main()none 12{");
        for (int k = 0; k < 12; k++) {
            s.append("push 0 store ").append(k).append(' ');
        }
        s.append("a:");
        for (int k = 0; k < 12; k++) {
            s.append("inc ").append(k).append(" 1 load ").append(k).append(" push ").append(top).append(" lt c ");
        }
        s.append("back c:");
        for (int n = 2; n < top; n += 6) {
            String label = "b" + n;
            s.append("push ").append(n).append(" push ").append(n + 3).append(" eq ").append(label).append(' ');
            s.append(label).append(':');
        }
        s.append("goto a}}");
        SafeCode x = new SafeCode();
        C.due("load", Checks.load(x, s.toString()), 0);
        C.due("errors(72)", x.errors(72), 768);
        C.due("low(72, 11)", x.low(72, 11), top);
        C.due("high(72, 11)", x.high(72, 11), top);
        C.due("high(72, 0)", x.high(72, 0), MAX);
    }

    /** Main counts up to top by each of these kinds, with a way of many gotos back to the first one. */
    private static String text(int top, int gotos, int... kinds) {
        return HEAD + "static main()none 12{" + counters(top, kinds) + "back " + wayBack(gotos) + pushes(top) + "}}";
    }

    private static String counters(int top, int... kinds) {
        StringBuilder s = new StringBuilder(BEGIN);
        for (int k = 0; k < kinds.length; k++) {
            s.append("push 0 store ").append(2 + k).append(' ');
        }
        s.append("a: ");
        for (int k = 0; k < kinds.length; k++) {
            s.append(COUNTERS[kinds[k]].replaceAll("(inc|load|store) 2 ", "$1 " + (2 + k) + " "));
            s.append("load ").append(2 + k).append(" push ").append(top).append(" lt c ");
        }
        return s.toString();
    }

    /** From c to a, against the order of the text. */
    private static String wayBack(int gotos) {
        StringBuilder s = new StringBuilder("w0:goto a ");
        for (int k = 1; k < gotos; k++) {
            s.append('w').append(k).append(":goto w").append(k - 1).append(' ');
        }
        return s.append("c:goto w").append(gotos - 1).append(' ').toString();
    }

    /** Makes all numbers up to top thresholds. */
    private static String pushes(int top) {
        StringBuilder s = new StringBuilder();
        for (int n = 2; n <= top; n += 3) {
            s.append("push ").append(n).append(' ');
        }
        return s.append("back").toString();
    }

    private static int instructions(String lines) {
        int count = 0;
        String words = "push|load|store|inc|dup|add|sub|lt|new|array|length|aload|astore|get|put|call|give";
        for (String word : lines.split("[ {}]+")) {
            count += word.matches(words) ? 1 : 0;
        }
        return count;
    }
}
