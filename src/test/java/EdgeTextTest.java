/** Terms 1 and 2 with promises 4 and 5, sentence by sentence: the edges of texts and of the form of programs. */
final class EdgeTextTest {
    private static final Checks C = new Checks();
    private static final String MAIN = Checks.main(0, "back");
    private static final String LONGEST = "abcdefghijklmnopqrst_Z09";

    public static void main(String[] args) {
        codes();
        blanks();
        remarks();
        tokens();
        namesBegin();
        namesGoOn();
        namesEnd();
        numbers();
        types();
        results();
        references();
        noClass();
        firstWrongToken();
        endOfTheText();
        members();
        operands();
        labels();
        faultOneAt();
        C.close();
    }

    /** The text has this fault or not; if so, at the token. */
    private static void form(boolean fine, int at, String text) {
        SafeCode x = new SafeCode();
        int fault = Checks.load(x, text);
        if (fine) {
            C.due("fault 2 of " + text, fault == 2, false);
        } else {
            C.due("load of " + text, fault, 2);
            C.due("faultAt of " + text, x.faultAt(), at);
        }
    }

    private static boolean isBlank(int c) {
        return c == 9 || c == 10 || c == 13 || c == 32;
    }

    private static void codes() {
        C.sentence("It may have the codes 9, 10, 13 and 32 .. 126 (else fault 1)");
        for (int c = 0; c < 256; c++) {
            boolean fine = isBlank(c) || c > 32 && c <= 126;
            SafeCode x = new SafeCode();
            C.due("fault 1 of the code " + c, Checks.load(x, "" + (char) c) == 1, !fine);
            C.due("faultAt of the code " + c, x.faultAt(), 0);
            C.due("fault 1 of the code " + c + " at the end", Checks.load(x, MAIN + " " + (char) c) == 1, !fine);
            C.due("fault 1 of the code " + c + " in a remark", Checks.load(x, MAIN + ";" + (char) c) == 1, !fine);
        }
    }

    private static void blanks() {
        C.sentence("9, 10, 13 and 32 are BLANKS");
        for (int c = 32; c >= 0; c--) {
            if (isBlank(c)) {
                C.fine((char) c + MAIN.replace(' ', (char) c) + (char) c);
            }
        }
        C.fault(2, 0, MAIN.replace(' ', '!'));
    }

    private static void remarks() {
        C.sentence("; and all up to before the next 10 or the end is a blank too");
        C.fine(MAIN + ";");
        C.fine(MAIN + "; ( ) { } : class ; klass");
        C.fine(";\n" + MAIN);
        C.fine("; klass\n" + MAIN);
        C.fine(MAIN.replace(" ", ";:\n"));
        C.fault(3, 0, ";" + MAIN);
        C.fault(3, 0, ";\r" + MAIN + "\t;");
        C.fault(2, 1, "class;A\nof");
        // a word ends before it
        C.fault(2, 1, "class;\nclass");
        C.fault(2, 0, "cla;\nss A of Object { }");
    }

    private static void tokens() {
        C.sentence("TOKENS are ( ) { } : each by itself, and WORDS, the longest rows of other characters; they are numbered from 0");
        C.fine("class Main of Object{static main()none 0{a:b:goto c c:back}}");
        C.fault(3, 9, "class A of Object{field a int}");
        C.fault(3, 19, "class A of Object{static m(int A)none 2{a:back}}");
        C.fault(2, 0, "{{class");
        C.fault(2, 4, "class A of Object((");
        C.fault(2, 6, "class A of Object{}}}");
        C.fault(2, 1, "class-A of Object { }".replace('-', ':'));
        C.fault(2, 0, "class-A of Object { }");
        C.fault(2, 0, "~!\"#$%&'*+,-./<=>?@[\\]^_`|");
    }

    private static boolean isSmall(int c) {
        return c >= 'a' && c <= 'z';
    }

    private static boolean isLarge(int c) {
        return c >= 'A' && c <= 'Z';
    }

    /** Whether a character can stand within a word at all. */
    private static boolean isInside(int c) {
        return "(){}:;".indexOf(c) < 0;
    }

    private static void namesBegin() {
        C.sentence("NAMES begin with a .. z, CLASS NAMES with A .. Z");
        for (int c = 33; c <= 126; c++) {
            if (isInside(c)) {
                form(isSmall(c), 6, "class A of Object { field " + (char) c + " int }");
                form(isSmall(c), 6, "class A of Object { field " + (char) c + "b int }");
                form(isLarge(c), 1, "class " + (char) c + " of Object { }");
                form(isLarge(c), 1, "class " + (char) c + "B of Object { }");
            }
        }
    }

    private static void namesGoOn() {
        C.sentence("then come letters, digits and _");
        for (int c = 33; c <= 126; c++) {
            boolean fine = isSmall(c) || isLarge(c) || c >= '0' && c <= '9' || c == '_';
            if (isInside(c)) {
                form(fine, 6, "class A of Object { field a" + (char) c + " int }");
                form(fine, 6, "class A of Object { field a" + (char) c + "b int }");
                form(fine, 1, "class A" + (char) c + " of Object { }");
            }
        }
    }

    private static void namesEnd() {
        C.sentence("in all at most 24 characters");
        C.due("characters", LONGEST.length(), 24);
        String large = "A" + LONGEST.substring(1);
        C.fault(3, "class A of Object { field " + LONGEST + " int } @");
        C.fault(2, "class A of Object { field @" + LONGEST + "x int }");
        C.fault(3, "class " + large + " of Object { } @");
        C.fault(2, "class @" + large + "x of Object { }");
        C.fault(3, "class A of @" + large + " { }");
        C.fault(2, "class A of @" + large + "x { }");
        C.fault(3, "class A of Object { field f @" + large + "[] }");
        C.fault(2, "class A of Object { field f @" + large + "x[] }");
        C.fault(3, lines("get @" + large + "." + LONGEST + " back } }"));
        C.fault(2, lines("get @" + large + "x." + LONGEST + " back } }"));
        C.fault(2, lines("get @" + large + "." + LONGEST + "x back } }"));
        C.fault(3, lines(LONGEST + " : goto " + LONGEST + " } } @"));
        C.fault(2, lines("goto @" + LONGEST + "x back } }"));
        C.fault(2, lines("@" + LONGEST + "x : back } }"));
        // the longest ones differ by their last character
        C.fault(3, lines(LONGEST + " : goto @" + LONGEST.substring(0, 23) + "8 } }"));
    }

    private static String lines(String lines) {
        return "class A of Object { static s ( ) none 0 { " + lines;
    }

    private static final String[] NUMBERS = {
        "0", "-0", "7", "-7", "00", "0000000000", "-0000000000", "0000000001", "-0000000009", "2147483647", "-2147483648",
        "2147483646", "-2147483647", "0123456789"};
    private static final String[] NO_NUMBERS = {
        "-", "--1", "+1", "1-", "1a", "a1", "0x1", "1.0", "1_0", "00000000000", "-00000000000", "00000000001", "2147483648",
        "-2147483649", "9999999999", "-9999999999", "21474836470", "4294967296", "-4294967295", "A", "A.b", "int", "1[]"};

    private static void numbers() {
        C.sentence("NUMBERS: - or nothing, and one to ten digits, from -2147483648 to 2147483647");
        for (String n : NUMBERS) {
            C.fault(3, lines("push " + n + " back } } @"));
            int v = Integer.parseInt(n);
            SafeCode x = C.fine(Checks.main(0, "push " + n + " pop back"));
            C.due("low of " + n, x.low(1, 12), v);
            C.due("high of " + n, x.high(1, 12), v);
            form(true, 0, lines("inc " + n + " " + n + " load " + n + " store " + n + " back } }"));
            form(true, 0, "class A of Object { static s ( ) none " + n + " { back } }");
        }
        for (String n : NO_NUMBERS) {
            C.fault(2, lines("push @" + n + " back } }"));
            C.fault(2, lines("load @" + n + " back } }"));
            C.fault(2, lines("inc @" + n + " 1 back } }"));
            C.fault(2, lines("inc 1 @" + n + " back } }"));
            C.fault(2, "class A of Object { static s ( ) none @" + n + " { back } }");
        }
    }

    private static final String[] NO_TYPES = {
        "a", "a[]", "int[][]", "A[][]", "[]", "A[", "A]", "A[]x", "A[1]", "int[", "integer", "Int[", "none", "1", "A.b", "A_[]]"};

    private static void types() {
        C.sentence("TYPES: int, a class name, int[], a class name and [] behind it in one word");
        for (String t : new String[] {"int", "A", "int[]", "A[]", "Int", "A_9[]"}) {
            form(true, 0, "class A of Object { field f " + t + " }");
            form(true, 0, "class A of Object { static s ( " + t + " " + t + " ) " + t + " 0 { } }");
        }
        for (String t : NO_TYPES) {
            C.fault(2, "class A of Object { field f @" + t + " }");
            C.fault(2, "class A of Object { static s ( int @" + t + " ) none 0 { } }");
        }
        C.fault(2, "class A of Object { field f A @[] }");
        C.fault(2, "class A of Object { static s ( A @[] ) none 0 { } }");
    }

    private static void results() {
        C.sentence("RESULTS: a type, or none");
        form(true, 0, "class A of Object { static s ( ) none 0 { } }");
        for (String t : NO_TYPES) {
            if (!t.equals("none")) {
                C.fault(2, "class A of Object { static s ( ) @" + t + " 0 { } }");
            }
        }
        C.fault(2, "class A of Object { static s ( ) @None[][] 0 { } }");
        C.fault(2, "class A of Object { static s ( ) @none[] 0 { } }");
    }

    private static void references() {
        C.sentence("REFERENCES: a class name, . and a name, in one word");
        String[] wrong = {"A.", ".a", ".", "A.B", "a.b", "A.b.c", "A..b", "A", "b", "A[].b", "A.b[]", "A.1", "1.a", "A._a", "A,b", "A.b."};
        for (String op : new String[] {"get", "put", "call", "send"}) {
            form(true, 0, lines(op + " A.b " + op + " A_1.b_1 back } }"));
            for (String r : wrong) {
                C.fault(2, lines(op + " @" + r + " back } }"));
            }
            C.fault(2, lines(op + " @A .b back } }"));
            C.fault(2, lines(op + " @A. b back } }"));
        }
    }

    private static void noClass() {
        C.sentence("A program is a row of classes (perhaps none)");
        C.fault(3, 0, "");
        C.fault(3, 0, " ");
        C.fault(3, 0, ";");
        C.fault(3, "class A of Object { } @");
        C.fine("class A of Object { } " + MAIN + " class B of A { }");
    }

    /** A text that has everything once. */
    private static final String ALL = "class A of Object { field f int field g A[] "
        + "method m ( int A ) int 3 { push 1 give } } class B of A { } "
        + "class Main of Object { static main ( ) none 3 { a : push -5 store 0 null store 1 load 0 pop inc 0 2 dup pop swap "
        + "add sub mul div rem and or xor shl shr neg b : goto c c : eq a ne a lt a le a gt a ge a isnull a notnull a same a "
        + "other a new A array int array A length aload astore get A.f put A.g cast A is A[] cast int[] call Main.main send A.m "
        + "throw give read write back catch a b c Error } }";

    private static void firstWrongToken() {
        C.sentence("fault 2 at the first token with which those so far are not the beginning of a program");
        String[] words = ALL.split(" ");
        for (int t = 0; t < words.length; t++) {
            String old = words[t];
            words[t] = "?";
            C.fault(2, t, String.join(" ", words));
            // what is behind the first wrong token does not count
            words[t] = old.equals("(") ? "{" : "(";
            C.fault(2, t, String.join(" ", words));
            words[t] = old;
        }
    }

    private static void endOfTheText() {
        C.sentence("at the end of the text the number of tokens");
        String[] words = ALL.split(" ");
        StringBuilder part = new StringBuilder();
        int depth = 0;
        for (int t = 0; t < words.length; t++) {
            part.append(words[t]).append(' ');
            depth += words[t].equals("{") ? 1 : words[t].equals("}") ? -1 : 0;
            boolean whole = depth == 0 && words[t].equals("}");
            if (t < words.length - 1) {
                C.fault(whole ? 3 : 2, t + 1, part.toString());
            }
        }
        form(true, 0, part.toString());
        C.fault(2, words.length, part + "}");
    }

    private static void members() {
        C.sentence("Members:  field NAME TYPE;  static NAME ( types ) RESULT LOCALS { lines };  method NAME ( types ) RESULT LOCALS { lines }");
        String a = "class A of Object { ";
        form(true, 0, a + "}");
        form(true, 0, a + "static static ( ) none 0 { } method method ( ) int 1 { } field field A }");
        C.fault(2, a + "@push 1 }");
        C.fault(2, a + "@f int }");
        C.fault(2, a + "@class B of A { } }");
        C.fault(2, a + "field @f int }".replace("f int", "F int"));
        C.fault(2, a + "field f int @int }");
        C.fault(2, a + "static m @) none 0 { } }");
        C.fault(2, a + "static m ( ) none @{ } }");
        C.fault(2, a + "static m ( ) none 0 @} }");
        C.fault(2, a + "static m ( ) none 0 { } @{ }");
        C.fault(2, a + "static m ( @( ) none 0 { } }");
        C.fault(2, a + "static m ( ) none 0 @0 { } }");
        C.fault(2, a + "static m ( ) @( none 0 { } }");
    }

    private static final String[] WITH_OPERANDS = {
        "push N", "null", "load N", "store N", "inc N N", "dup", "pop", "swap", "add", "sub", "mul", "div", "rem", "and", "or", "xor",
        "shl", "shr", "neg", "goto L", "eq L", "ne L", "lt L", "le L", "gt L", "ge L", "isnull L", "notnull L", "same L", "other L",
        "new C", "array E", "length", "aload", "astore", "get F", "put F", "cast T", "is T", "call F", "send F", "throw", "give",
        "back", "read", "write", "catch L L L C"};

    /** Words of every shape, and which operands they can be. */
    private static final String[][] SHAPES = {
        {"1", "N"}, {"-1", "N"}, {"a", "L"}, {"push", "L"}, {"int", "LE"}, {"none", "L"}, {"A", "CET"}, {"A[]", "T"}, {"int[]", "T"},
        {"A.a", "F"}, {"A.A", ""}, {"2147483648", ""}, {"(", ""}, {")", ""}, {"{", ""}, {"}", ""}, {":", ""}};

    private static void operands() {
        C.sentence("else an INSTRUCTION and its operands .. with N, K numbers, L names, C class names, E int or a class name, T types but int, F references");
        C.due("instructions", WITH_OPERANDS.length, 46 + 1);
        for (String line : WITH_OPERANDS) {
            String[] parts = line.split(" ");
            StringBuilder head = new StringBuilder(parts[0]);
            for (int k = 1; k < parts.length; k++) {
                for (String[] s : SHAPES) {
                    boolean label = k == 1 && s[0].equals(":");
                    if (!label && s[1].indexOf(parts[k]) < 0) {
                        C.fault(2, lines(head + " @" + s[0] + " back } }"));
                    }
                }
                C.fault(2, lines(head + " @"));
                for (String[] s : SHAPES) {
                    if (s[1].indexOf(parts[k]) >= 0) {
                        head.append(' ').append(s[0]);
                        break;
                    }
                }
            }
            form(true, 0, lines(head + " back } }"));
            form(true, 0, lines(head + " } }"));
            // one operand too many
            C.fault(2, lines(head + " @1 back } }"));
            C.fault(2, lines(head + " @A back } }"));
            C.fault(2, lines(head + " @A.a back } }"));
            C.fault(2, lines(head + " @{ back } }"));
        }
    }

    private static void labels() {
        C.sentence("LABEL :  with a name");
        for (String word : new String[] {"1", "A", "A.a", "int[]", "_a", "?", ":", "("}) {
            C.fault(2, lines("@" + word + " : back } }"));
        }
        // a name could have been a label: the next token tells that it is none
        C.fault(2, lines("jump @back } }"));
        C.fault(2, lines("jump @} }"));
        C.fault(2, lines("jump @"));
        C.fault(2, lines("jump : @: } }"));
        C.fault(2, lines("jump @jump : } }"));
        C.sentence("a word with a : behind it is a label, whatever it is");
        for (String line : WITH_OPERANDS) {
            String word = line.split(" ")[0];
            C.fine(Checks.main(0, "goto " + word + " " + word + " : back"));
            C.fine(Checks.main(0, word + ":goto " + word));
        }
        for (String word : "class of field static method int none main catch a z9_Z".split(" ")) {
            C.fine(Checks.main(0, "goto " + word + " " + word + " : back"));
        }
        C.fault(2, lines("push : 1 back } }".replace("1", "@1")));
        C.fault(2, lines("goto x @: back } }"));
        C.fault(2, lines("push 1 @: back } }"));
        C.fault(2, lines("catch a @: back } }"));
    }

    private static void faultOneAt() {
        C.sentence("of fault 1 the number of tokens before the byte, a word right before it being one");
        C.fault(1, 0, "\0");
        C.fault(1, 0, " \n\t\r\u0080");
        C.fault(1, 1, "a\u007f");
        C.fault(1, 1, "a \u007f");
        C.fault(1, 1, "a;\u007f");
        C.fault(1, 1, "a;b c\u007f d");
        C.fault(1, 2, "a;b c\nd\u0001");
        C.fault(1, 2, "a:\u00ff");
        C.fault(1, 3, "a:b\u00ff");
        C.fault(1, 5, "(){}:\u00ff");
        C.fault(1, 1, "class\u000bA of Object { } \u0001");
        C.fault(1, Checks.tokens(MAIN), MAIN + "\u000c");
        C.fault(1, Checks.tokens(MAIN), MAIN + ";\u000c");
    }
}
