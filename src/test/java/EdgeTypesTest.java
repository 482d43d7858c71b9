import java.util.List;

/** Terms 4 with promises 4 and 5, sentence by sentence: heights and types, told at the instruction's word. */
final class EdgeTypesTest {
    private static final Checks C = new Checks();
    private static final String HEAD = "class A of Object { field f int field g A method m ( int ) A 2 { load 0 give } method n ( ) none 1 { back } } "
        + "class B of A { field h B[] } class E of Error { } "
        + "class Main of Object { static s ( int A ) int 2 { load 0 give } static t ( ) none 0 { back } ";
    /** What each instruction takes and leaves: the things taken from below, the instruction, how many it leaves. */
    private static final String[][] TAKING = {
        {"", "push 1", "1"}, {"", "read", "1"}, {"", "null", "1"}, {"", "load 0", "1"}, {"", "new A", "1"}, {"", "inc 0 1", "0"},
        {"", "goto z", "0"}, {"", "back", "0"}, {"int", "store 1", "0"}, {"int", "pop", "0"}, {"int", "dup", "2"}, {"int int", "swap", "2"},
        {"int int", "add", "1"}, {"int int", "sub", "1"}, {"int int", "mul", "1"}, {"int int", "div", "1"}, {"int int", "rem", "1"},
        {"int int", "and", "1"}, {"int int", "or", "1"}, {"int int", "xor", "1"}, {"int int", "shl", "1"}, {"int int", "shr", "1"},
        {"int", "neg", "1"}, {"int int", "eq z", "0"}, {"int int", "ne z", "0"}, {"int int", "lt z", "0"}, {"int int", "le z", "0"},
        {"int int", "gt z", "0"}, {"int int", "ge z", "0"}, {"A", "isnull z", "0"}, {"A", "notnull z", "0"}, {"A B", "same z", "0"},
        {"A null", "other z", "0"}, {"int", "array int", "1"}, {"int", "array A", "1"}, {"A[]", "length", "1"}, {"int[] int", "aload", "1"},
        {"A[] int A", "astore", "0"}, {"A", "get A.f", "1"}, {"A int", "put A.f", "0"}, {"A", "cast B", "1"}, {"A", "is B", "1"},
        {"int A", "call Main.s", "1"}, {"", "call Main.t", "0"}, {"A int", "send A.m", "1"}, {"B", "send A.n", "0"}, {"E", "throw", "0"},
        {"int", "write", "0"}};
    private static final String[] TYPES = {"int", "null", "A", "B", "E", "Object", "Error", "int[]", "A[]", "B[]", "Object[]", "E[]", "UNSET"};
    private static int made;

    public static void main(String[] args) {
        bodyByBody();
        heightsFirst();
        edges();
        takesWhatIsThere();
        leavesMoreThanEight();
        twoHeights();
        heightsGoOnNowhere();
        catchHeights();
        wanted();
        elements();
        results();
        below();
        joins();
        beginnings();
        alongEdges();
        leastSolution();
        left();
        dupAndSwap();
        whateverWasTaken();
        elementsLeft();
        loads();
        incs();
        givesAndBacks();
        notComeTo();
        C.close();
    }

    private static String text(String lines) {
        return HEAD + "static main ( ) none 4 { " + lines + " } }";
    }

    private static void fine(String lines) {
        C.fine(text(lines));
    }

    private static void fault(String lines) {
        C.fault(4, text(lines));
    }

    private static void is(boolean fine, String marked) {
        if (fine) {
            fine(marked.replace("@", ""));
        } else {
            fault(marked);
        }
    }

    /** Lines that leave something of the type on the stack. */
    private static String makes(String type) {
        made++;
        if (type.equals("int")) {
            return "push 1 ";
        }
        if (type.equals("null")) {
            return "null ";
        }
        if (type.equals("UNSET")) {
            return "read push 0 lt u" + made + " null goto v" + made + " u" + made + " : push 1 v" + made + " : ";
        }
        return type.endsWith("[]") ? "push 1 array " + type.replace("[]", "") + " " : "new " + type + " ";
    }

    private static String makesAll(String types) {
        StringBuilder all = new StringBuilder();
        for (String type : types.isEmpty() ? new String[0] : types.split(" ")) {
            all.append(makes(type));
        }
        return all.toString();
    }

    private static String above(String type) {
        switch (type) {
            case "B": return "A";
            case "E": return "Error";
            case "Object":
            case "int": return "UNSET";
            default: return "Object";
        }
    }

    /** The document's sentence on what is below what, once more. */
    private static boolean isBelow(String s, String t) {
        if (s.equals(t) || t.equals("UNSET")) {
            return true;
        }
        if (s.equals("int") || t.equals("int") || s.equals("UNSET") || t.equals("null")) {
            return false;
        }
        if (s.equals("null") || t.equals("Object")) {
            return true;
        }
        boolean one = s.endsWith("[]");
        if (one != t.endsWith("[]") || s.equals("int[]") || t.equals("int[]")) {
            return false;
        }
        String from = s.replace("[]", "");
        String to = t.replace("[]", "");
        while (!from.equals(to) && !from.equals("Object")) {
            from = above(from);
        }
        return from.equals(to);
    }

    private static void bodyByBody() {
        C.sentence("fault 4, at the instruction's word; body by body in the order of the text");
        C.fault(4, "class Main of Object { static a ( ) none 1 { @load 0 back } static main ( ) none 0 { pop back } }");
        C.fault(4, "class Main of Object { static main ( ) none 0 { @pop back } static a ( ) none 1 { load 0 back } }");
        C.fault(4, "class A of Object { static a ( ) none 0 { push 1 neg @isnull x x : back } } " + Checks.main(0, "pop back"));
    }

    private static void heightsFirst() {
        C.sentence("in each first heights, then types");
        fault("load 0 pop push 1 isnull a a : @pop back");
        fault("push 1 @isnull a a : read pop back");
        fault("load 0 pop null neg pop push 1 push 2 push 3 push 4 push 5 push 6 push 7 push 8 @dup back");
        // a type's fault in an earlier body comes before a height's in a later one
        C.fault(4, HEAD + "static q ( ) int 0 { null @give } static main ( ) none 0 { pop back } }");
    }

    private static void edges() {
        C.sentence("EDGES go from an instruction to the next one (but not from goto, throw, give, back), to its label");
        fine("goto a pop pop a : back");
        fine("null throw pop pop back");
        fine("back pop pop back");
        C.fine(HEAD + "static q ( ) int 0 { push 1 give pop pop push 1 give } static main ( ) none 0 { back } }");
        fault("read push 0 lt a @pop back a : back");
        fault("read push 0 lt a back a : @pop back");
        fault("null isnull a back a : @pop back");
        fault("goto a back a : @pop back");
        C.sentence("and from each instruction of FROM up to before TO of a catch to AT");
        fine("push 1 push 2 a : pop b : pop back c : pop back catch a b c Error");
        fault("a : read b : pop back c : pop @pop back catch a b c Error");
        // the instruction at TO has no such edge, and none before FROM
        fine("push 1 store 0 a : read pop b : null store 0 back c : pop inc 0 1 back catch a b c Error");
        fine("null store 0 push 1 store 0 a : read pop b : back c : pop inc 0 1 back catch a b c Error");
        fault("null store 0 a : push 1 store 0 b : back c : pop @inc 0 1 back catch a b c Error");
        // goto, back, throw have it too
        fault("goto a a : goto b b : back c : pop @pop back catch a b c Error");
        fault("goto a a : back b : c : pop @pop back catch a b c Error");
        fault("a : null throw b : c : pop @pop back catch a b c Error");
    }

    private static void takesWhatIsThere() {
        C.sentence("It is a fault at an instruction if .. one from which it takes what is not there");
        for (String[] t : TAKING) {
            String[] types = t[0].isEmpty() ? new String[0] : t[0].split(" ");
            is(true, "push 1 store 0 " + makesAll(t[0]) + "@" + t[1] + " z : back");
            for (int there = 0; there < types.length; there++) {
                fault("push 1 store 0 " + "push 1 ".repeat(there) + "@" + t[1] + " z : back");
            }
        }
        C.fault(4, HEAD + "static q ( ) int 0 { @give } static main ( ) none 0 { back } }");
        C.fine(HEAD + "static q ( ) int 0 { push 1 give } static main ( ) none 0 { back } }");
    }

    private static void leavesMoreThanEight() {
        C.sentence("or leaves more than 8");
        for (String[] t : TAKING) {
            int taken = t[0].isEmpty() ? 0 : t[0].split(" ").length;
            for (int below = 5 - taken; below <= 8 - taken; below++) {
                boolean fine = below + Integer.parseInt(t[2]) <= 8;
                is(fine, "push 1 store 0 " + "read ".repeat(below) + makesAll(t[0]) + "@" + t[1] + " z : back");
            }
        }
        fine("push 1 push 2 push 3 push 4 push 5 push 6 push 7 push 8 back");
        fault("push 1 push 2 push 3 push 4 push 5 push 6 push 7 push 8 @push 9 back");
        // a call of one with more types than 8 can't have them
        C.fault(4, "class Main of Object { static many ( " + "int ".repeat(9) + ") none 9 { back } static main ( ) none 0 { "
            + "push 1 ".repeat(8) + "@call Main.many back } }");
        C.fine("class Main of Object { static many ( " + "int ".repeat(8) + ") none 8 { back } static main ( ) none 0 { "
            + "push 1 ".repeat(8) + "call Main.many back } }");
    }

    private static void twoHeights() {
        C.sentence("It is a fault at an instruction if two different heights come to it");
        fault("read push 0 lt a push 1 a : @back");
        fault("a : @read goto a");
        fault("push 1 a : @pop goto a");
        fine("a : read pop goto a");
        fine("read push 0 lt a push 1 goto b a : push 2 b : pop back");
        // both go on, and the first of all instructions with two is told
        fault("goto b a : @read pop back b : push 1 read push 0 lt a pop goto a");
        fault("goto c a : @read pop back c : read push 0 lt b push 1 b : goto a");
    }

    private static void heightsGoOnNowhere() {
        C.sentence("such a height goes on nowhere, not to a catch either");
        // the pop at b takes what is not there: a is come to by nothing else
        fault("goto b a : push 1 push 2 pop pop pop pop back b : @pop goto a");
        fault("goto b h : pop pop back b : @pop c : goto c catch b c h Error");
        fault("goto b a : pop pop pop pop pop pop pop pop pop back b : read read read read read read read read @read goto a");
        fault("goto b h : pop pop back b : read read read read read read read read c : @read d : back catch c d h Error");
        // a fine height of the same instruction goes on
        fault("goto b a : @pop pop back b : read push 0 lt c push 1 c : pop goto a");
    }

    private static void catchHeights() {
        C.sentence("a body begins with 0; along edges 0 .. 8, and at a catch's AT 1");
        fault("@pop back");
        fine("read read read read read read read read a : pop b : back c : pop back catch a b c Error");
        fault("read read read read read read read read a : pop b : back c : pop @pop back catch a b c Error");
        fault("a : read pop b : read pop c : @back catch a b c Error");
        C.fault(4, "class Main of Object { static main ( ) none 0 { a : @read pop b : back catch a b a Error } }");
        fine("a : read b : c : pop back catch a b c Error");
        // a catch of instructions that nothing comes to leads nowhere
        fine("back a : read pop b : back c : pop pop pop back catch a b c Error");
    }

    /** What the thing at that place must be below; * is any ref, + null or an array, anything if it is empty. */
    private static final String[][] WANTED = {
        {"", "pop"}, {"", "store 1"}, {"", "dup"}, {"", "", "swap"}, {"int", "int", "add"}, {"int", "int", "sub"}, {"int", "int", "mul"},
        {"int", "int", "div"}, {"int", "int", "rem"}, {"int", "int", "and"}, {"int", "int", "or"}, {"int", "int", "xor"},
        {"int", "int", "shl"}, {"int", "int", "shr"}, {"int", "neg"}, {"int", "int", "eq z"}, {"int", "int", "ne z"},
        {"int", "int", "lt z"}, {"int", "int", "le z"}, {"int", "int", "gt z"}, {"int", "int", "ge z"}, {"*", "isnull z"},
        {"*", "notnull z"}, {"*", "*", "same z"}, {"*", "*", "other z"}, {"int", "array int"}, {"int", "array A"}, {"+", "length"},
        {"+", "int", "aload"}, {"A", "get A.f"}, {"B", "get B.f"}, {"A", "int", "put A.f"}, {"A", "A", "put A.g"}, {"B", "B[]", "put B.h"},
        {"*", "cast B"}, {"*", "cast int[]"}, {"*", "is B"}, {"*", "is A[]"}, {"int", "A", "call Main.s"}, {"A", "int", "send A.m"},
        {"B", "int", "send B.m"}, {"B", "send B.n"}, {"Error", "throw"}, {"int", "write"}};

    private static boolean suits(String type, String want) {
        switch (want) {
            case "": return true;
            case "*": return !type.equals("int") && !type.equals("UNSET");
            case "+": return type.equals("null") || type.endsWith("[]");
            default: return isBelow(type, want);
        }
    }

    private static String suiting(String want) {
        return want.isEmpty() || want.equals("*") ? "A" : want.equals("+") ? "A[]" : want;
    }

    private static void wanted() {
        C.sentence("what is taken is below what is told (array: null or an array type; store, pop, dup, swap: anything)");
        for (String[] w : WANTED) {
            int taken = w.length - 1;
            for (int place = 0; place < taken; place++) {
                for (String type : TYPES) {
                    StringBuilder lines = new StringBuilder();
                    for (int k = 0; k < taken; k++) {
                        lines.append(makes(k == place ? type : suiting(w[k])));
                    }
                    is(suits(type, w[place]), lines + "@" + w[taken] + " z : back");
                }
            }
        }
    }

    private static void elements() {
        C.sentence("the element of astore: below the array's element, behind null anything but UNSET");
        for (String array : TYPES) {
            boolean isArray = array.endsWith("[]") || array.equals("null");
            for (String type : TYPES) {
                boolean fits = array.equals("null") ? !type.equals("UNSET") : isBelow(type, array.replace("[]", ""));
                is(isArray && fits, makes(array) + "push 0 " + makes(type) + "@astore z : back");
            }
            is(false, makes(array) + "null " + makes("A") + "@astore z : back");
        }
    }

    private static void results() {
        C.sentence("of give below the body's result");
        for (String result : TYPES) {
            for (String type : TYPES) {
                if (result.equals("null") || result.equals("UNSET")) {
                    continue;
                }
                String q = HEAD + "static q ( ) " + result + " 0 { " + makes(type) + "@give } static main ( ) none 0 { back } }";
                if (isBelow(type, result)) {
                    C.fine(q.replace("@", ""));
                } else {
                    C.fault(4, q);
                }
            }
        }
    }

    private static void below() {
        C.sentence("Null is BELOW all refs, a class below those above it, arrays below Object, C[] below D[] for C below D, each below itself, all below UNSET");
        for (String s : TYPES) {
            for (String t : TYPES) {
                if (!t.equals("null") && !t.equals("UNSET")) {
                    takesAs(t, makes(s), isBelow(s, t));
                }
            }
        }
        // some of them told one by one
        takesAs("Object", "null ", true);
        takesAs("int", "null ", false);
        takesAs("int[]", "null ", true);
        takesAs("Object", makes("int[]"), true);
        takesAs("Object[]", makes("int[]"), false);
        takesAs("Object[]", makes("B[]"), true);
        takesAs("A[]", makes("B[]"), true);
        takesAs("B[]", makes("A[]"), false);
        takesAs("A", makes("A[]"), false);
        takesAs("A", makes("B"), true);
        takesAs("B", makes("A"), false);
        takesAs("Object", makes("int"), false);
        takesAs("Object", makes("UNSET"), false);
    }

    /** Whether what the lines leave can be given to a parameter of the type. */
    private static void takesAs(String type, String lines, boolean fine) {
        String text = HEAD + "static q ( " + type + " ) none 1 { back } static main ( ) none 4 { " + lines + "@call Main.q back } }";
        if (fine) {
            C.fine(text.replace("@", ""));
        } else {
            C.fault(4, text);
        }
    }

    private static String join(String s, String t) {
        for (String u : TYPES) {
            boolean above = isBelow(s, u) && isBelow(t, u);
            for (String v : TYPES) {
                above = above && (!isBelow(s, v) || !isBelow(t, v) || isBelow(u, v));
            }
            if (above) {
                return u;
            }
        }
        return "UNSET";
    }

    private static void joins() {
        C.sentence("Two types JOIN to the least that is above both");
        C.due("join", List.of(join("A", "B"), join("A", "E"), join("B[]", "E[]"), join("int[]", "A[]"), join("int", "null"), join("A", "A[]"))
            .equals(List.of("A", "Object", "Object[]", "Object", "UNSET", "Object")), true);
        for (String s : TYPES) {
            for (String t : TYPES) {
                String both = "read push 0 lt a " + makes(s) + "goto b a : " + makes(t) + "b : ";
                for (String u : new String[] {"int", "Object", "A", "B", "Error", "int[]", "Object[]", "A[]"}) {
                    takesAs(u, both, isBelow(join(s, t), u));
                }
                // a local likewise
                String local = both.replace("goto b", "store 0 goto b").replace("b : ", "store 0 b : ");
                is(!join(s, t).equals("UNSET"), local + "@load 0 pop back");
            }
        }
    }

    private static void beginnings() {
        C.sentence("At the beginning of a body the parameters (for a method first its class) are the locals from 0 on, the others are UNSET");
        String q = "class Main of Object { static main ( ) none 0 { back } static q ( int Main[] ) int 3 { ";
        C.fine(q + "load 0 load 1 push 0 aload pop give } }");
        C.fault(4, q + "@load 2 pop load 0 give } }");
        C.fault(4, q + "load 1 @neg give } }");
        String m = "class Main of Object { static main ( ) none 0 { back } method q ( int ) Main 3 { ";
        C.fine(m + "inc 1 1 load 0 give } }");
        C.fault(4, m + "@inc 0 1 load 0 give } }");
        C.fault(4, m + "@load 2 give } }");
        C.fault(4, Checks.main(12, "@load 11 pop back"));
        // the first class of a method is its own, not the one that was told above
        C.fine("class A of Object { method m ( ) none 1 { back } } class Main of A { field f int method m ( ) none 1 { load 0 get Main.f pop back } "
            + "static main ( ) none 0 { back } }");
    }

    private static void alongEdges() {
        C.sentence("Along each edge go the locals and the stack behind the instruction (to AT: the locals before it, and CLASS alone)");
        fine("push 1 store 0 read push 0 lt a inc 0 1 a : inc 0 1 back");
        fault("push 1 store 0 a : null store 0 push 2 b : pop back c : pop @inc 0 1 back catch a b c Error");
        fine("push 1 store 0 a : null store 0 b : back c : pop inc 0 1 back catch a b c Error");
        fault("a : push 1 store 0 b : back c : pop @load 0 pop back catch a b c Error");
        fine("a : read pop b : back c : cast NullError pop back catch a b c Error");
        fine("a : read pop b : back c : throw catch a b c E");
        fault("a : read pop b : back c : @neg pop back catch a b c E");
        // two catches with one AT join their classes
        fault("a : read pop b : back c : @get A.f pop back catch a b c E catch a b c NullError");
        C.fine("class E of Error { field f int } class F of E { } class G of E { } " + Checks.main(0,
            "a : read pop b : back c : get E.f pop back catch a b c F catch a b c G"));
        C.fault(4, "class E of Error { field f int } class F of E { } " + Checks.main(0,
            "a : read pop b : back c : @get E.f pop back catch a b c F catch a b c Error"));
    }

    private static void leastSolution() {
        C.sentence("what comes to an instruction joins (the least such solution)");
        // what comes around a loop changes what was there before it
        fault("push 1 store 0 a : read pop @inc 0 1 null store 0 goto a");
        fault("new B store 0 a : read pop load 0 @get B.h pop new A store 0 goto a");
        fine("new B store 0 a : read pop load 0 get A.f pop new A store 0 goto a");
        fault("null a : read pop dup @isnull b b : pop push 1 goto a");
        fault("push 1 store 0 push 1 store 1 push 1 store 2 a : read pop @inc 2 1 load 1 store 2 load 0 store 1 null store 0 goto a");
        // the first instruction of all can be come to again
        C.fault(4, "class Main of Object { static s ( int ) none 1 { a : @inc 0 1 null store 0 goto a } static main ( ) none 0 { back } }");
        C.fault(4, "class Main of Object { static main ( ) none 0 { a : @read goto a } }");
    }

    /** What each instruction leaves, and its type. */
    private static final String[][] LEFT = {
        {"push 1", "int"}, {"read", "int"}, {"null", "null"}, {"new B", "B"}, {"push 1 array int", "int[]"}, {"push 1 array B", "B[]"},
        {"push 1 neg", "int"}, {"push 1 push 2 add", "int"}, {"push 1 push 2 sub", "int"}, {"push 1 push 2 mul", "int"}, {"push 1 push 2 div", "int"},
        {"push 1 push 2 rem", "int"}, {"push 1 push 2 and", "int"}, {"push 1 push 2 or", "int"}, {"push 1 push 2 xor", "int"},
        {"push 1 push 2 shl", "int"}, {"push 1 push 2 shr", "int"}, {"null length", "int"}, {"push 1 array A push 0 aload", "A"},
        {"push 1 array int push 0 aload", "int"}, {"null get A.f", "int"}, {"null get A.g", "A"}, {"null get B.h", "B[]"}, {"null get B.g", "A"},
        {"new A cast E", "E"}, {"new B cast A", "A"}, {"null cast int[]", "int[]"}, {"null cast A[]", "A[]"}, {"null is A", "int"},
        {"push 1 null call Main.s", "int"}, {"null push 1 send A.m", "A"}, {"new B push 1 send B.m", "A"}, {"new B store 3 load 3", "B"}};

    private static void left() {
        C.sentence("INSTRUCTIONS take and leave on the stack");
        for (String[] l : LEFT) {
            for (String u : TYPES) {
                if (!u.equals("null") && !u.equals("UNSET")) {
                    takesAs(u, l[0] + " ", isBelow(l[1], u));
                }
            }
        }
    }

    private static void dupAndSwap() {
        C.sentence("dup (a: a a)   swap (a b: b a)");
        fine("new A dup get A.f pop get A.f pop back");
        fault("push 1 dup @isnull a a : back");
        fault("push 1 dup pop @isnull a a : back");
        fine("push 1 new A swap neg pop get A.f pop back");
        fault("push 1 new A swap @get A.f pop back");
        fault("push 1 new A swap pop @neg pop back");
        fault("push 1 push 1 null swap pop @neg pop back");
        fine("null push 1 push 1 swap neg pop neg pop isnull a a : back");
    }

    private static void whateverWasTaken() {
        C.sentence("Results are as told, whatever was taken");
        // the first fault is told, what is behind it goes on with the result
        fault("null @neg push 1 add isnull a a : back");
        fault("goto b a : @isnull c c : back b : null neg goto a");
        fine("null get A.g get A.f write back");
        fine("null push 1 send A.m get A.f write back");
        fault("goto b a : load 1 write @load 0 pop back b : null neg store 1 goto a");
    }

    private static void elementsLeft() {
        C.sentence("aload leaves the element of an array type, of null it goes on nowhere (but to catches), else UNSET");
        fine("push 1 array int push 0 aload neg pop back");
        fine("push 1 array B push 0 aload get B.f pop back");
        fault("push 1 array A push 0 aload @get B.f pop back");
        fine("null push 0 aload neg isnull a a : load 0 back");
        fine("a : null push 0 aload b : neg isnull d d : back c : pop back catch a b c Error");
        fault("goto a c : pop @load 0 pop back a : null push 0 aload b : pop back catch a b c Error");
        // of another type it goes on with UNSET, which is a fault only where it is used
        fault("goto b a : @neg back b : new A push 0 aload goto a");
        fault("goto b a : pop back b : new A push 0 @aload goto a");
        // null and an array join to the array
        fine("read push 0 lt a null goto b a : push 1 array int b : push 0 aload neg pop back");
    }

    private static void loads() {
        C.sentence("load: not UNSET");
        for (String type : TYPES) {
            is(!type.equals("UNSET"), makes(type) + "store 0 @load 0 pop back");
        }
        fault("@load 3 pop back");
        fault("read push 0 lt a push 1 store 0 a : @load 0 pop back");
        fine("read push 0 lt a push 1 store 0 goto b a : push 2 store 0 b : load 0 pop back");
    }

    private static void incs() {
        C.sentence("inc: the local is int");
        for (String type : TYPES) {
            is(type.equals("int"), makes(type) + "store 0 @inc 0 1 back");
        }
        fault("@inc 3 1 back");
        fault("push 1 store 0 a : @inc 0 1 null store 0 goto a");
    }

    private static void givesAndBacks() {
        C.sentence("give in a body with a result, back in one with none");
        fault("push 1 @give");
        fault("null @give");
        fine("back");
        C.fault(4, HEAD + "static q ( ) int 0 { @back } static main ( ) none 0 { back } }");
        C.fault(4, HEAD + "static q ( ) A 0 { null @back } static main ( ) none 0 { back } }");
        C.fine(HEAD + "static q ( ) A 0 { null give back } static main ( ) none 0 { back push 1 give } }");
    }

    private static void notComeTo() {
        C.sentence("It is a fault at an instruction that is come to");
        fine("back a : pop load 0 neg isnull a inc 3 1 give");
        fine("null push 0 aload give");
        fine("goto b a : load 0 goto a b : back");
        // a body that nothing calls is looked at, too
        C.fault(4, HEAD + "static q ( ) none 0 { push 1 @isnull a a : back } static main ( ) none 0 { back } }");
    }
}
