import java.util.Arrays;
import java.util.List;

/** Terms 6 with promises 7 to 15, sentence by sentence: what is proved of slots, objects, bodies and errors. */
final class EdgeProofTest {
    private static final Checks C = new Checks();
    private static final int MIN = Integer.MIN_VALUE;
    private static final int MAX = Integer.MAX_VALUE;
    private static final long NULL = 1L << 62;
    private static final String CLASSES = "class A of Object { field n int field a A method m ( ) int 1 { push 1 #8 give } } "
        + "class B of A { method m ( ) int 1 { push 2 #9 give } } class D of B { } class E of Error { } class F of E { } ";
    private static final List<String> NO_OPERAND = List.of(("null dup pop swap add sub mul div rem and or xor shl shr neg length aload astore "
        + "throw give back read write").split(" "));
    /** The program that is looked at, and the instructions behind the marks #0 to #9 of its text. */
    private static SafeCode x;
    private static final int[] AT = new int[10];

    public static void main(String[] args) {
        sites();
        slotsJoin();
        setsJoin();
        leastSolution();
        allAreLookedAt();
        beginnings();
        changing();
        changingSized();
        loadsAndStores();
        less();
        atMost();
        equal();
        setsOfLocals();
        nulls();
        keepsNothing();
        same();
        makesArrays();
        makesObjects();
        dereferences();
        lengths();
        indexes();
        indexesOfSlots();
        indexErrorsUnder();
        indexErrorsSized();
        indexErrorsByLength();
        elements();
        storedSites();
        storeErrors();
        fields();
        casts();
        types();
        calls();
        callsThatEnd();
        sends();
        gives();
        nullErrors();
        sizeErrors();
        castErrors();
        throwing();
        catching();
        catchEdges();
        errorBits();
        escapes();
        slotNumbers();
        facts();
        siteLengths();
        C.close();
    }

    private static void load(String lines) {
        load(lines, "");
    }

    private static void load(String lines, String bodies) {
        whole("class Main of Object { static main ( ) none 6 { " + lines + " } " + bodies + "} " + CLASSES);
    }

    private static void whole(String text) {
        findMarks(text);
        x = C.fine(text.replaceAll("#\\d ", ""));
    }

    /** A mark stands before an instruction; the instructions of the text are counted. */
    private static void findMarks(String text) {
        Arrays.fill(AT, -9);
        String[] words = text.split("\\s+");
        int count = 0;
        int depth = 0;
        for (int t = 0; t < words.length; t++) {
            String w = words[t];
            depth += w.equals("{") ? 1 : w.equals("}") ? -1 : 0;
            if (w.startsWith("#")) {
                AT[w.charAt(1) - '0'] = count;
            } else if (depth == 2 && !w.equals("{") && !w.equals("}")) {
                boolean label = t + 1 < words.length && words[t + 1].equals(":");
                boolean isCatch = !label && w.equals("catch");
                count += label || isCatch ? 0 : 1;
                t += label ? 1 : isCatch ? 4 : w.equals("inc") ? 2 : NO_OPERAND.contains(w) ? 0 : 1;
            }
        }
    }

    private static void range(int mark, int s, int low, int high) {
        int i = AT[mark];
        C.due("kind(#" + mark + ", " + s + ")", x.kind(i, s), 1);
        C.due("low(#" + mark + ", " + s + ")", x.low(i, s), low);
        C.due("high(#" + mark + ", " + s + ")", x.high(i, s), high);
        C.due("sites(#" + mark + ", " + s + ")", x.sites(i, s), 0);
    }

    private static void refs(int mark, int s, long sites) {
        int i = AT[mark];
        C.due("kind(#" + mark + ", " + s + ")", x.kind(i, s), 2);
        C.due("sites(#" + mark + ", " + s + ")", x.sites(i, s), sites);
        C.due("low(#" + mark + ", " + s + ")", x.low(i, s), 0);
        C.due("high(#" + mark + ", " + s + ")", x.high(i, s), 0);
    }

    private static void unset(int mark, int s) {
        unsetAt(AT[mark], s);
    }

    private static void unsetAt(int i, int s) {
        C.due("kind(" + i + ", " + s + ")", x.kind(i, s), 0);
        C.due("low(" + i + ", " + s + ")", x.low(i, s), 0);
        C.due("high(" + i + ", " + s + ")", x.high(i, s), 0);
        C.due("sites(" + i + ", " + s + ")", x.sites(i, s), 0);
        for (int which = 0; which < 5; which++) {
            C.due("fact(" + i + ", " + s + ", " + which + ")", x.fact(i, s, which), which == 0 ? -1 : 0);
        }
    }

    private static void facts(int mark, int s, int copy, int less, int under, int length, int sized) {
        int[] due = {copy, less, under, length, sized};
        for (int which = 0; which < 5; which++) {
            C.due("fact(#" + mark + ", " + s + ", " + which + ")", x.fact(AT[mark], s, which), due[which]);
        }
    }

    private static void noFacts(int mark, int s) {
        facts(mark, s, -1, 0, 0, 0, 0);
    }

    private static void errors(int mark, int due) {
        C.due("errors(#" + mark + ")", x.errors(AT[mark]), due);
    }

    private static void escape(int mark, long due) {
        C.due("escapes(#" + mark + ")", x.escapes(AT[mark]), due);
    }

    private static void reached(int mark, boolean due) {
        C.due("#" + mark + " is reached", (x.errors(AT[mark]) & 256) != 0, due);
    }

    private static void ends(long due) {
        C.due("ends()", x.ends(), due);
    }

    private static void sites() {
        C.sentence("SITES: the instructions new and array have numbers from 0 in the order of the text (at most 48)");
        load("new A #0 pop push 1 array A #1 pop goto a new B pop a : new D #2 pop back");
        refs(0, 12, 1);
        refs(1, 12, 2);
        refs(2, 12, 8);
        load("new A pop push 1 array int pop ".repeat(23) + "new A pop push 6 array int #0 pop back");
        C.due("size(1)", x.size(1), 48);
        refs(0, 12, 1L << 47);
        C.due("lengths(47, 0)", x.lengths(47, 0), 6);
        C.sentence("48 .. 53 are the errors that are raised by themselves, NullError .. StoreError in the order of 3");
        String[] lines = {"null length pop", "push 0 array int push 0 aload pop", "push -1 array int pop", "push 1 push 0 div pop",
            "new A cast B pop", "push 1 array B cast A[] push 0 new A astore"};
        for (int k = 0; k < lines.length; k++) {
            load(lines[k] + " back");
            ends(1L << 48 + k);
        }
        // one that is made by new has its own site
        load("new NullError throw");
        ends(1);
    }

    private static void slotsJoin() {
        C.sentence("Slots join by their values; COPY if it is the same, else none; the sets' common elements; an int with a ref, and what is unset on one side, is unset");
        String fork = "read store 0 read store 1 read push 0 lt a ";
        load(fork + "load 0 goto b a : load 0 b : #0 pop back");
        facts(0, 12, 0, 0, 0, 0, 0);
        load(fork + "load 0 goto b a : load 1 b : #0 pop back");
        noFacts(0, 12);
        load(fork + "load 0 goto b a : push 3 b : #0 pop back");
        noFacts(0, 12);
        load(fork + "push 3 goto b a : push 7 b : #0 pop back");
        range(0, 12, 3, 7);
        load(fork + "new A goto b a : null b : #0 pop back");
        refs(0, 12, NULL | 1);
        load(fork + "new A goto b a : new B b : #0 pop back");
        refs(0, 12, 3);
        load(fork + "new A goto b a : push 1 b : #0 pop back");
        unset(0, 12);
        // locals, of which one is an int here and a ref there, or nothing
        load(fork + "push 3 store 2 null store 3 push 1 store 4 goto b a : new A store 2 null store 3 b : #0 back");
        unset(0, 2);
        refs(0, 3, NULL);
        unset(0, 4);
        unset(0, 5);
        range(0, 0, MIN, MAX);
        // 2 < 0 and 2 < 1 on one way, 2 < 0 on the other, none of both on the third
        load("read store 0 read store 1 read store 2 load 2 load 0 ge z load 2 load 1 lt a #0 goto b a : #1 push 1 pop b : #2 goto z z : #3 back");
        facts(0, 2, -1, 1, 0, 0, 0);
        facts(1, 2, -1, 3, 0, 0, 0);
        facts(2, 2, -1, 1, 0, 0, 0);
        noFacts(3, 2);
    }

    private static void setsJoin() {
        C.sentence("the sets' common elements");
        String facts = "push 9 array int store 3 read store 0 read store 1 load 0 load 1 ge z read store 2 load 2 load 3 length ge z load 3 length store 4 "
            + "load 0 load 2 load 4 push 6 store 5 load 5 array int ";
        // on both ways: all of them stay
        load(facts + "read push 0 lt a push 1 pop a : #0 goto y y : back z : back");
        facts(0, 0, -1, 2, 0, 0, 0);
        facts(0, 2, -1, 0, 8, 0, 0);
        facts(0, 4, -1, 0, 0, 8, 0);
        facts(0, 12, 0, 2, 0, 0, 0);
        facts(0, 13, 2, 0, 8, 0, 0);
        facts(0, 14, 4, 0, 0, 8, 0);
        facts(0, 15, -1, 0, 0, 0, 32);
        range(0, 5, 6, 6);
        // on one way alone: they are gone
        load(facts + "read push 0 lt a inc 1 1 null store 3 inc 5 1 a : #0 goto y y : back z : back");
        noFacts(0, 0);
        noFacts(0, 2);
        noFacts(0, 4);
        facts(0, 12, 0, 0, 0, 0, 0);
        facts(0, 13, 2, 0, 0, 0, 0);
        facts(0, 14, 4, 0, 0, 0, 0);
        noFacts(0, 15);
        // whichever way comes first
        load(facts + "goto c a : #0 goto y y : back c : read push 0 lt a inc 1 1 null store 3 inc 5 1 goto a z : back");
        noFacts(0, 0);
        noFacts(0, 2);
        noFacts(0, 4);
        noFacts(0, 15);
    }

    private static void leastSolution() {
        C.sentence("All this is the LEAST solution of what follows");
        String head = "class A of Object { field f int field g int field h int } class Main of Object { static main ( ) none 2 { ";
        // a field, an element, a length, a parameter and a result grow around a loop; what stands beside them does not
        whole(head + "new A store 0 a : load 0 load 0 get A.h #0 push 1 add put A.h load 0 get A.g #1 pop goto a } }");
        range(0, 13, MIN, MAX);
        range(1, 12, 0, 0);
        whole(head + "push 1 array int store 1 push 1 array int store 0 a : load 0 push 0 load 0 push 0 aload #0 push 1 add astore load 1 push 0 aload #1 pop goto a } }");
        range(0, 14, MIN, MAX);
        range(1, 12, 0, 0);
        whole(head + "push 5 array int store 1 a : load 1 length #0 push 1 add #1 array int store 1 goto a } }");
        range(0, 12, 0, MAX);
        errors(1, 256 + 4);
        C.due("lengths(0, 0)", x.lengths(0, 0), 5);
        C.due("lengths(0, 1)", x.lengths(0, 1), 5);
        C.due("lengths(1, 0)", x.lengths(1, 0), 0);
        C.due("lengths(1, 1)", x.lengths(1, 1), MAX);
        whole(head + "push 0 store 0 a : load 0 call Main.up #0 store 0 goto a } static up ( int ) int 1 { #1 load 0 push 1 add give } }");
        range(0, 12, MIN, MAX);
        range(1, 0, MIN, MAX);
        // no more than is told: 0 to 10, and not one more
        whole(head + "push 0 store 0 a : load 0 push 10 ge b load 0 call Main.up store 0 goto a b : #0 back } static up ( int ) int 1 { #1 load 0 push 1 add #2 give } }");
        range(0, 0, 10, 10);
        range(1, 0, 0, 9);
        range(2, 12, 1, 10);
        // a field of refs: what is put late is found by what was looked at early
        whole("class A of Object { field f int field g A } class Main of Object { static main ( ) none 1 { new A store 0 load 0 get A.g #0 pop call Main.q load 0 new A put A.g back } "
            + "static q ( ) none 0 { back } }");
        refs(0, 12, NULL | 2);
        // the first instruction of all is come to again
        whole("class A of Object { static s ( int ) none 1 { a : #0 inc 0 1 goto a } } " + Checks.main(0, "push 0 call A.s back"));
        range(0, 0, MIN, MAX);
    }

    private static void allAreLookedAt() {
        C.sentence("For each instruction there is a state or none (NOT REACHED)");
        whole(Checks.main(1, "push 0 store 0 " + "inc 0 1 ".repeat(1020) + "goto a a : back"));
        C.due("size(0)", x.size(0), 1024);
        for (int i = 0; i < 1024; i++) {
            C.due("errors(" + i + ")", x.errors(i), i < 1023 ? 256 : 768);
            C.due("kind(" + i + ", 0)", x.kind(i, 0), i < 2 ? 0 : 1);
        }
        C.due("run", x.run(2000), 0);
        C.due("steps()", x.steps(), 1024);
        C.due("strays()", x.strays(), 0);
        // however far the way goes
        for (int gap = 0; gap < 300; gap++) {
            whole(Checks.main(0, "goto z " + "back ".repeat(gap) + "y : back z : goto y"));
            C.due("errors(0)", x.errors(0), 256);
            C.due("errors(y)", x.errors(gap + 1), 768);
            C.due("errors(z)", x.errors(gap + 2), 256);
            C.due("errors between", x.errors((gap + 1) / 2), gap == 0 ? 256 : 0);
        }
    }

    private static void beginnings() {
        C.sentence("A body whose call (or main) is reached begins with its parameters as slots without COPY and sets, all else unset");
        load("#0 push 3 array int store 0 read store 1 load 1 load 0 length lt a back a : load 1 #1 load 0 call Main.q back",
            "static q ( int int[] ) none 4 { #2 back } static r ( int ) none 1 { #3 back } ");
        facts(1, 12, 1, 0, 1, 0, 0);
        range(2, 0, MIN, 2);
        refs(2, 1, 1);
        noFacts(2, 0);
        noFacts(2, 1);
        unset(2, 2);
        unset(2, 3);
        for (int s = 0; s < 6; s++) {
            unset(0, s);
        }
        // what nothing calls is not reached
        errors(3, 0);
        unset(3, 0);
    }

    private static void changing() {
        C.sentence("CHANGING local k: COPY k becomes none, and k goes out of all sets, in all slots");
        // 0 is less than 1, 2 is under the array 3, 4 its length, and copies of all lie on the stack
        String facts = "push 9 array int store 3 read store 0 read store 1 load 0 load 1 ge z read store 2 load 2 load 3 length ge z load 3 length store 4 "
            + "load 0 load 1 load 2 load 3 load 4 #0 ";
        for (String change : new String[] {"inc 1 1", "push 5 store 1", "load 1 store 1"}) {
            load(facts + change + " #1 back z : back");
            facts(0, 0, -1, 2, 0, 0, 0);
            facts(0, 2, -1, 0, 8, 0, 0);
            facts(0, 4, -1, 0, 0, 8, 0);
            facts(0, 12, 0, 2, 0, 0, 0);
            facts(0, 13, 1, 0, 0, 0, 0);
            facts(0, 14, 2, 0, 8, 0, 0);
            facts(0, 15, 3, 0, 0, 0, 0);
            facts(0, 16, 4, 0, 0, 8, 0);
            noFacts(1, 0);
            facts(1, 12, 0, 0, 0, 0, 0);
            noFacts(1, 13);
            facts(1, 2, -1, 0, 8, 0, 0);
            facts(1, 14, 2, 0, 8, 0, 0);
        }
        load(facts + "null store 3 #1 back z : back");
        facts(1, 0, -1, 2, 0, 0, 0);
        noFacts(1, 2);
        noFacts(1, 4);
        facts(1, 14, 2, 0, 0, 0, 0);
        noFacts(1, 15);
        facts(1, 16, 4, 0, 0, 0, 0);
    }

    private static void changingSized() {
        C.sentence("CHANGING local k: .. k goes out of all sets (SIZED), in all slots");
        load("read store 0 load 0 push 0 lt z load 0 array int store 1 load 1 load 0 #0 inc 0 1 #1 back z : back");
        facts(0, 1, -1, 0, 0, 0, 1);
        facts(0, 12, 1, 0, 0, 0, 1);
        facts(0, 13, 0, 0, 0, 0, 0);
        noFacts(1, 1);
        facts(1, 12, 1, 0, 0, 0, 0);
        noFacts(1, 13);
    }

    private static void loadsAndStores() {
        C.sentence("load k: the local's slot, with COPY k. store k: local k is changed, and then is the slot that was taken, without COPY. dup, swap, pop: whole slots");
        load("read store 0 read store 1 load 0 load 1 ge z load 0 #0 dup #1 store 2 #2 push 5 swap #3 pop #4 pop back z : back");
        facts(0, 12, 0, 2, 0, 0, 0);
        facts(1, 12, 0, 2, 0, 0, 0);
        facts(1, 13, 0, 2, 0, 0, 0);
        facts(2, 2, -1, 2, 0, 0, 0);
        facts(2, 12, 0, 2, 0, 0, 0);
        facts(3, 13, 0, 2, 0, 0, 0);
        noFacts(3, 12);
        range(3, 12, 5, 5);
        range(4, 12, 5, 5);
        // what is stored is no fact of itself: 0 is less than 1, and then 1 is 0
        load("read store 0 read store 1 load 0 load 1 ge z load 0 store 1 #0 back z : back");
        noFacts(0, 0);
        noFacts(0, 1);
        C.sentence("inc k: .. sets empty");
        load("read store 0 read store 1 load 0 load 1 ge z #0 inc 0 0 #1 back z : back");
        facts(0, 0, -1, 2, 0, 0, 0);
        noFacts(1, 0);
        C.sentence("all these, and what is told without them below, have no COPY and empty sets");
        load("push 5 #0 pop null #1 pop read #2 pop new A #3 pop read read add #4 pop back");
        for (int mark = 0; mark < 5; mark++) {
            noFacts(mark, 12);
        }
        range(0, 12, 5, 5);
        refs(1, 12, NULL);
        range(2, 12, MIN, MAX);
        refs(3, 12, 1);
    }

    private static void less() {
        C.sentence("a < b: .. a's LESS gets b's LESS and its COPY, a's UNDER b's UNDER and LENGTH");
        for (String op : new String[] {"load 0 load 1 lt a", "load 1 load 0 gt a"}) {
            load("read store 0 read store 1 " + op + " #0 back a : #1 back");
            noFacts(0, 0);
            noFacts(0, 1);
            facts(1, 0, -1, 2, 0, 0, 0);
            noFacts(1, 1);
        }
        // 1 is less than 2, so 0 is, too
        load("read store 0 read store 1 read store 2 load 1 load 2 ge z load 0 load 1 lt a back a : #0 back z : back");
        facts(0, 0, -1, 6, 0, 0, 0);
        facts(0, 1, -1, 4, 0, 0, 0);
        // 1 is under 3, and so is 0
        load("push 9 array int store 3 read store 0 read store 1 load 1 load 3 length ge z load 0 load 1 lt a back a : #0 back z : back");
        facts(0, 0, -1, 2, 8, 0, 0);
        // a length that was stored: 0 is less than that local and under the array
        load("push 9 array int store 3 read store 0 load 3 length store 1 load 0 load 1 lt a #0 back a : #1 back");
        noFacts(0, 0);
        facts(1, 0, -1, 2, 8, 0, 0);
        // a number on the stack alone has no COPY to give
        load("read store 0 load 0 push 5 lt a back a : #0 back");
        noFacts(0, 0);
    }

    private static void atMost() {
        C.sentence("a <= b: .. a's LESS gets b's LESS, a's UNDER b's UNDER");
        for (String op : new String[] {"load 0 load 1 le a", "load 1 load 0 ge a"}) {
            load("read store 0 read store 1 read store 2 load 1 load 2 ge z " + op + " #0 back a : #1 back z : back");
            facts(1, 0, -1, 4, 0, 0, 0);
            // on the other way 1 is less than 0
            noFacts(0, 0);
            facts(0, 1, -1, 5, 0, 0, 0);
        }
        load("push 9 array int store 3 read store 0 read store 1 load 1 load 3 length ge z load 0 load 1 le a back a : #0 back z : back");
        facts(0, 0, -1, 0, 8, 0, 0);
        // what is at most a length is not under it
        load("push 9 array int store 3 read store 0 load 0 load 3 length le a back a : #0 back");
        noFacts(0, 0);
        range(0, 0, MIN, 9);
    }

    private static void equal() {
        C.sentence("a = b: .. LESS, UNDER and LENGTH of both become all of both");
        load("read array int store 3 read array int store 4 read store 0 read store 1 read store 2 load 0 load 2 ge z load 0 load 4 length ge z load 1 load 3 length ne z "
            + "load 0 load 1 eq a #0 back a : #1 back z : back");
        facts(0, 0, -1, 4, 16, 0, 0);
        facts(0, 1, -1, 0, 0, 8, 0);
        facts(1, 0, -1, 4, 16, 8, 0);
        facts(1, 1, -1, 4, 16, 8, 0);
        C.sentence("a # b: .. (no sets)");
        load("read store 0 read store 1 load 0 load 1 ne a back a : #0 back");
        noFacts(0, 0);
        noFacts(0, 1);
    }

    private static void setsOfLocals() {
        C.sentence("is its COPY k, local k gets .. the slot's sets besides its own");
        // the slot becomes less than 1, while its local is less than 2 already
        load("read store 0 read store 1 read store 2 load 0 load 0 load 2 ge y #0 load 1 lt a #1 back a : #2 back y : pop back");
        facts(0, 0, -1, 4, 0, 0, 0);
        facts(0, 12, 0, 0, 0, 0, 0);
        facts(1, 0, -1, 4, 0, 0, 0);
        facts(2, 0, -1, 6, 0, 0, 0);
    }

    private static final String MAYBE = "null store 0 read push 0 eq a new A store 0 a : ";

    private static void nulls() {
        C.sentence("isnull, notnull: the way on which it is null is taken if NULL is in it, the other one if there are sites; is its COPY k, local k keeps NULL alone, or its sites alone");
        load(MAYBE + "load 0 isnull b #0 back b : #1 back");
        refs(0, 0, 1);
        refs(1, 0, NULL);
        load(MAYBE + "load 0 notnull b #0 back b : #1 back");
        refs(0, 0, NULL);
        refs(1, 0, 1);
        String[] ops = {"null isnull", "new A isnull", "null notnull", "new A notnull"};
        for (int k = 0; k < 4; k++) {
            load(ops[k] + " b #0 back b : #1 back");
            boolean jumps = k == 0 || k == 3;
            errors(0, jumps ? 0 : 768);
            errors(1, jumps ? 768 : 0);
        }
        // a slot that is no copy leaves the local
        load(MAYBE + "load 0 store 1 load 1 isnull b #0 back b : back");
        refs(0, 0, NULL | 1);
        refs(0, 1, 1);
    }

    private static void keepsNothing() {
        C.sentence("Wherever in what follows a local keeps nothing, no site and no NULL, the way is not taken either");
        // the slot below has both, the local sites alone on one way and NULL alone on the other
        load(MAYBE + "load 0 load 0 isnull b #0 isnull c #1 back c : #2 back b : #3 isnull d #4 back d : #5 back");
        refs(0, 12, NULL | 1);
        refs(0, 0, 1);
        refs(3, 12, NULL | 1);
        refs(3, 0, NULL);
        errors(1, 768);
        errors(2, 0);
        errors(4, 0);
        errors(5, 768);
        load(MAYBE + "load 0 load 0 isnull b pop back b : #0 cast A #1 is A pop back");
        errors(0, 256);
        refs(1, 12, NULL | 1);
        refs(1, 0, NULL);
        // NULL is no NULL any more, an A no B
        load(MAYBE + "new B store 1 load 0 load 0 notnull b pop back b : null #0 same c #1 back c : #2 back");
        refs(0, 12, NULL | 1);
        refs(0, 0, 1);
        errors(1, 768);
        errors(2, 0);
        load("new A store 0 read push 0 eq a new B store 0 a : load 0 load 0 cast B pop #0 cast A #1 pop new A store 1 load 0 pop back");
        refs(0, 0, 2);
        refs(0, 12, 3);
        refs(1, 0, 2);
        load("new A store 0 read push 0 eq a new E store 0 a : load 0 load 0 cast E pop #0 cast A #1 pop back");
        refs(0, 0, 2);
        refs(0, 12, 3);
        errors(0, 256 + 16 + 512);
        errors(1, 0);
    }

    private static void same() {
        C.sentence("same: the common sites, and NULL if both have it; with nothing the way is not taken; is the COPY of one k, local k keeps what is common with that. other: nothing");
        // local 0: NULL, the B (site 0) and an A (site 1); local 1: NULL, the B and a D (site 2)
        String two = "null store 0 null store 1 new B store 2 read push 0 eq a new A store 0 read push 0 eq a load 2 store 0 a : "
            + "read push 0 eq b load 2 store 1 read push 0 eq b new D store 1 b : #0 ";
        load(two + "load 0 load 1 same c #1 back c : #2 back");
        refs(0, 0, NULL | 3);
        refs(0, 1, NULL | 5);
        refs(1, 0, NULL | 3);
        refs(1, 1, NULL | 5);
        refs(2, 0, NULL | 1);
        refs(2, 1, NULL | 1);
        load(two + "load 0 load 1 other c #1 back c : #2 back");
        refs(1, 0, NULL | 1);
        refs(1, 1, NULL | 1);
        refs(2, 0, NULL | 3);
        refs(2, 1, NULL | 5);
        load("new A new A same c #0 back c : #1 back");
        errors(0, 768);
        errors(1, 0);
        load("new A null other c #0 back c : #1 back");
        errors(0, 0);
        errors(1, 768);
        load("null null same c #0 back c : #1 back");
        errors(0, 768);
        errors(1, 768);
        // one of them is no copy
        load(two + "load 0 null same c #1 back c : #2 back");
        refs(1, 0, NULL | 3);
        refs(2, 0, NULL);
        refs(2, 1, NULL | 5);
        load(two + "new A load 1 same c #1 back c : #2 back");
        errors(1, 768);
        errors(2, 0);
    }

    private static void makesArrays() {
        C.sentence("array: no way on if the count's highest is below 0; the site's lengths get [max(l, 0), h], its elements [0, 0] or NULL; it leaves the site, "
            + "with SIZED the count's COPY (if there is one)");
        int[][] counts = {{-1, -1}, {0, 0}, {1, 1}, {-1, 0}, {-5, 3}, {MIN, MAX}, {MIN, -2}, {MAX, MAX}, {2, 9}, {MIN, MIN}};
        for (int[] c : counts) {
            load("read store 0 load 0 push " + c[0] + " lt z load 0 push " + c[1] + " gt z load 0 #0 array int #1 push 0 aload #2 pop z : back");
            boolean on = c[1] >= 0;
            errors(0, 256 + (c[0] < 0 ? 4 : 0) + (on ? 0 : 512));
            C.due("lengths(0, 0)", x.lengths(0, 0), on ? Math.max(c[0], 0) : -1);
            C.due("lengths(0, 1)", x.lengths(0, 1), on ? c[1] : -1);
            reached(1, on);
            reached(2, c[1] > 0);
            if (on) {
                refs(1, 12, 1);
                facts(1, 12, -1, 0, 0, 0, 1);
            }
            if (c[1] > 0) {
                range(2, 12, 0, 0);
            }
        }
        load("push 5 array A #0 push 4 aload #1 pop back");
        noFacts(0, 12);
        refs(1, 12, NULL);
        // the site's lengths are those of all its arrays
        load("push 2 store 0 a : load 0 array int store 1 read push 0 eq z push 8 store 0 goto a z : back");
        C.due("lengths(0, 0)", x.lengths(0, 0), 2);
        C.due("lengths(0, 1)", x.lengths(0, 1), 8);
        load("push 5 store 2 load 2 array int store 0 load 0 store 1 #0 inc 2 1 #1 back");
        facts(0, 0, -1, 0, 0, 0, 4);
        facts(0, 1, -1, 0, 0, 0, 4);
        noFacts(1, 0);
        noFacts(1, 1);
    }

    private static void makesObjects() {
        C.sentence("new: all fields of the site get [0, 0] or NULL");
        load("new D #0 store 0 load 0 get A.n #1 pop load 0 get A.a #2 pop back");
        noFacts(0, 12);
        range(1, 12, 0, 0);
        refs(2, 12, NULL);
        noFacts(1, 12);
    }

    private static final String[][] USES = {
        {"new A", "#0 get A.n pop"}, {"new A", "push 1 #0 put A.n"}, {"new A", "#0 send A.m pop"}, {"push 3 array int", "#0 length pop"},
        {"push 3 array int", "push 0 #0 aload pop"}, {"push 3 array int", "push 0 push 1 #0 astore"}, {"push 3 array A", "push 0 null #0 astore"}};

    private static void dereferences() {
        C.sentence("A DEREFERENCE of slot r: no way on without sites; is r's COPY k, local k loses NULL");
        for (String[] u : USES) {
            String maybe = "read push 0 eq a null goto b a : " + u[0] + " b : store 0 load 0 ";
            load(maybe + u[1] + " #1 back");
            refs(1, 0, 1);
            ends(1L << 48);
            load("null store 0 load 0 " + u[1] + " #1 back");
            reached(1, false);
            ends(1L << 48);
            // no copy, no change
            load(maybe + "store 1 load 1 " + u[1] + " #1 back");
            refs(1, 0, NULL | 1);
            refs(1, 1, 1);
            // the local has NULL alone where the slot has both: nothing is left
            load(maybe + "load 0 notnull z " + u[1] + " #1 back z : pop back");
            refs(0, 0, NULL);
            errors(0, 256 + 512 + 1);
            reached(1, false);
            ends(1L << 48);
        }
        // a body is not called, a field and an element not put then
        load("read push 0 eq a null goto b a : new A b : store 0 load 0 load 0 notnull z push 5 put A.n back z : get A.n #0 pop back");
        range(0, 12, 0, 0);
        load("read push 0 eq a null goto b a : new A b : store 0 load 0 load 0 notnull z send A.m pop back z : pop back");
        errors(8, 0);
    }

    private static void lengths() {
        C.sentence("length: dereference; the join of the lengths of its sites (none yet: no way); LENGTH is r's COPY");
        load("push 3 array int store 0 read push 0 eq a push 7 array int store 0 a : load 0 length #0 pop push 4 array A length #1 pop back");
        range(0, 12, 3, 7);
        facts(0, 12, -1, 0, 0, 1, 0);
        range(1, 12, 4, 4);
        noFacts(1, 12);
        load("push 0 array int length #0 pop push 2147483647 array int length #1 pop back");
        range(0, 12, 0, 0);
        range(1, 12, MAX, MAX);
    }

    private static void indexes() {
        C.sentence("aload, astore: no way on if the index's range, cut to 0 .. the highest length of the sites less 1, is nothing; is its COPY j, local j gets the "
            + "common part with that cut range (none: no way), and UNDER r's COPY");
        int[][] ranges = {{MIN, MAX}, {-1, -1}, {MIN, -1}, {-1, 0}, {0, 0}, {0, MAX}, {2, 3}, {3, 3}, {3, 4}, {4, 4}, {4, MAX}, {5, 9}, {-1, 9}, {MAX, MAX}};
        for (String use : new String[] {"#0 aload pop", "push 1 #0 astore"}) {
            for (int length : new int[] {0, 1, 4}) {
                for (int[] r : ranges) {
                    load("push " + length + " array int store 1 read store 0 load 0 push " + r[0] + " lt z load 0 push " + r[1] + " gt z "
                        + "load 1 load 0 " + use + " #1 back z : back");
                    boolean on = Math.max(r[0], 0) <= Math.min(r[1], length - 1);
                    boolean safe = r[0] >= 0 && r[1] < length;
                    errors(0, 256 + (safe ? 0 : 2) + (on ? 0 : 512));
                    reached(1, on);
                    if (on) {
                        range(1, 0, Math.max(r[0], 0), Math.min(r[1], length - 1));
                        facts(1, 0, -1, 0, 2, 0, 0);
                    }
                }
            }
        }
        // of several sites the highest length counts
        load("push 3 array int store 1 read push 0 eq a push 7 array int store 1 a : read store 0 load 1 load 0 aload pop #0 back");
        range(0, 0, 0, 6);
        facts(0, 0, -1, 0, 2, 0, 0);
    }

    private static void indexesOfSlots() {
        C.sentence("is its COPY j, local j gets .. (none: no way), and UNDER r's COPY");
        // an array without COPY gives no UNDER, an index without COPY changes no local
        load("read store 0 push 7 array int load 0 aload pop #0 push 7 array int store 1 load 1 read aload pop #1 back");
        range(0, 0, 0, 6);
        noFacts(0, 0);
        range(1, 0, 0, 6);
        noFacts(1, 0);
        // nothing is common with the local, which is 7 at least
        load("push 7 array int store 1 read store 0 load 1 load 0 load 0 push 7 ge b #2 aload pop back b : #0 aload pop #1 back");
        range(0, 0, 7, MAX);
        range(0, 13, MIN, MAX);
        errors(0, 256 + 512 + 2);
        reached(1, false);
        errors(2, 256 + 2);
    }

    private static void indexErrorsUnder() {
        C.sentence("IndexError in aload and astore whose dereference goes on, unless the index's lowest is at least 0 and: r's COPY is in its UNDER");
        String under = "read array int store 2 read array int store 1 read store 0 load 0 load 1 length ge z ";
        load(under + "load 0 push 0 lt z load 1 load 0 #0 aload pop back z : back");
        errors(0, 256);
        load(under + "load 0 push 0 lt z load 1 load 0 push 1 #0 astore back z : back");
        errors(0, 256);
        load(under + "load 0 push -1 lt z load 1 load 0 #0 aload pop back z : back");
        errors(0, 256 + 2);
        // an array in local 0
        load("read array int store 0 read store 1 load 1 load 0 length ge z load 1 push 0 lt z load 0 load 1 #0 aload pop back z : back");
        errors(0, 256);
        // the array of another local, a slot without COPY, an index that was made anew
        load(under + "load 0 push 0 lt z load 2 load 0 #0 aload pop back z : back");
        errors(0, 256 + 2);
        load(under + "load 0 push 0 lt z load 1 store 2 load 2 load 0 #0 aload pop back z : back");
        errors(0, 256 + 2);
        load(under + "load 0 push 0 lt z load 1 load 0 push 0 add #0 aload pop back z : back");
        errors(0, 256 + 2);
        // what was used once is under the array
        load(under + "load 2 load 0 #0 aload pop load 2 load 0 #1 aload pop back z : back");
        errors(0, 256 + 2);
        errors(1, 256);
        C.sentence("IndexError in aload and astore whose dereference goes on");
        load("null push -1 #0 aload pop back");
        errors(0, 256 + 512 + 1);
        load("null push -1 push 1 #0 astore back");
        errors(0, 256 + 512 + 1);
    }

    private static void indexErrorsSized() {
        C.sentence("or its LESS and r's SIZED have one in common");
        String sized = "read store 2 load 2 push 0 lt z load 2 array int store 1 read store 0 load 0 push %d lt z load 0 load 2 %s z %s load 1 load 0 #0 aload pop back z : back";
        load(String.format(sized, 0, "ge", ""));
        errors(0, 256);
        // at most the size, perhaps below 0, or the size is another one by now
        load(String.format(sized, 0, "gt", ""));
        errors(0, 256 + 2);
        load(String.format(sized, -1, "ge", ""));
        errors(0, 256 + 2);
        load(String.format(sized, 0, "ge", "inc 2 0"));
        errors(0, 256 + 2);
        load(String.format(sized, 0, "ge", "load 2 store 3 load 3 array int store 1"));
        errors(0, 256 + 2);
    }

    private static void indexErrorsByLength() {
        C.sentence("or its highest is below the lowest length of each site (sites whose lengths are not told yet count for nothing)");
        String two = "push 3 array int store 1 read push 0 eq a push 7 array int store 1 a : read store 0 load 0 push 0 lt z load 0 push %d gt z load 1 load 0 #0 aload pop back z : back";
        load(String.format(two, 2));
        errors(0, 256);
        load(String.format(two, 3));
        errors(0, 256 + 2);
        load(String.format(two, 6));
        errors(0, 256 + 2);
        load(String.format(two, 7));
        errors(0, 256 + 2);
    }

    private static void elements() {
        C.sentence("Then aload leaves the join of the elements of the sites; astore joins the value into the elements of each");
        load("push 5 array int store 0 load 0 push 0 push 9 astore load 0 push 1 aload #0 pop read push 0 eq a push 5 array int store 0 a : load 0 push 2 push -3 astore "
            + "load 0 push 1 aload #1 pop push 5 array int push 1 aload #2 pop back");
        range(0, 12, -3, 9);
        range(1, 12, -3, 9);
        range(2, 12, 0, 0);
        noFacts(1, 12);
    }

    private static void storedSites() {
        C.sentence("of refs: those sites that are below the site's element class, and NULL if it is there; no way on if there is none such for any site");
        // a B and an A into an array of B: the A stays out
        load("new A store 1 read push 0 eq a new B store 1 a : push 2 array B store 0 load 0 cast A[] push 0 load 1 #0 astore load 0 push 0 aload #1 pop back");
        errors(0, 256 + 32);
        refs(1, 12, NULL | 2);
        load("push 2 array B cast A[] push 0 new A #0 astore #1 back");
        errors(0, 256 + 512 + 32);
        reached(1, false);
        load("push 2 array B cast A[] push 0 null #0 astore #1 back");
        errors(0, 256);
        reached(1, true);
        // one of two arrays can hold it
        load("push 2 array B cast A[] store 0 read push 0 eq a push 2 array A store 0 a : load 0 push 0 new A #0 astore load 0 push 0 aload #1 pop back");
        errors(0, 256 + 32);
        refs(1, 12, NULL | 4);
        // NULL and an A that it can't hold: NULL goes in
        load("null store 1 read push 0 eq a new A store 1 a : push 2 array B cast A[] push 0 load 1 #0 astore #1 back");
        errors(0, 256 + 32);
        reached(1, true);
    }

    private static void storeErrors() {
        C.sentence("StoreError, where the index goes on, if a site of the value is not below the element class of a site of the array");
        load("push 2 array B cast A[] push 2 new A #0 astore back");
        errors(0, 256 + 512 + 2);
        load("push 2 array B cast A[] push -1 new A #0 astore back");
        errors(0, 256 + 512 + 2);
        load("push 2 array B cast A[] read new A #0 astore back");
        errors(0, 256 + 512 + 2 + 32);
        load("push 2 array A push 1 new D #0 astore push 2 array Object push 1 push 0 array int #1 astore push 2 array B push 0 null #2 astore back");
        errors(0, 256);
        errors(1, 256);
        errors(2, 256);
    }

    private static void fields() {
        C.sentence("get, put: likewise with fields, without an index");
        load("new A store 0 new B store 1 load 0 push 4 put A.n load 1 get A.n #0 pop read push 0 eq a load 1 store 0 a : load 0 push -4 put A.n load 1 get A.n pop "
            + "load 0 get A.n #1 pop load 0 load 1 put A.a load 0 get A.a #2 pop back");
        range(0, 12, -4, 0);
        range(1, 12, -4, 4);
        refs(2, 12, NULL | 2);
        noFacts(1, 12);
    }

    private static void casts() {
        C.sentence("cast: the sites that are T or below, and NULL if it was there, with the slot's COPY and SIZED; nothing: no way; is its COPY k, local k keeps what is common with that");
        String three = "null store 0 read push 0 eq a new A store 0 read push 0 eq a new B store 0 read push 0 eq a new D store 0 a : load 0 #0 ";
        load(three + "cast B #1 pop back");
        refs(0, 12, NULL | 7);
        errors(0, 256 + 16);
        refs(1, 12, NULL | 6);
        refs(1, 0, NULL | 6);
        facts(1, 12, 0, 0, 0, 0, 0);
        load(three + "cast Object #1 pop back");
        errors(0, 256);
        refs(1, 0, NULL | 7);
        load(three + "cast E #1 pop back");
        errors(0, 256 + 16);
        refs(1, 0, NULL);
        load("new A #0 cast E #1 pop back");
        errors(0, 256 + 512 + 16);
        reached(1, false);
        load("null #0 cast E #1 pop back");
        errors(0, 256);
        refs(1, 12, NULL);
        load("push 4 store 1 load 1 array B cast Object cast A[] #0 pop back");
        facts(0, 12, -1, 0, 0, 0, 2);
    }

    private static void types() {
        C.sentence("is: [0, 0], [1, 1] or [0, 1], by what NULL and the sites can give");
        load("null is A #0 pop new A is A #1 pop new A is B #2 pop new B is A #3 pop back");
        range(0, 12, 0, 0);
        range(1, 12, 1, 1);
        range(2, 12, 0, 0);
        range(3, 12, 1, 1);
        load(MAYBE + "load 0 is A #0 pop load 0 is B #1 pop back");
        range(0, 12, 0, 1);
        range(1, 12, 0, 0);
        noFacts(0, 12);
        refs(0, 0, NULL | 1);
        load("new A store 0 read push 0 eq a new B store 0 a : load 0 is B #0 pop load 0 is A #1 pop back");
        range(0, 12, 0, 1);
        range(1, 12, 1, 1);
    }

    private static final String BODIES = "static q ( int A ) int 2 { load 0 #5 give } static r ( ) none 0 { #6 goto a a : goto a } "
        + "static s ( ) int 0 { null #7 throw } static t ( ) none 0 { back } ";

    private static void calls() {
        C.sentence("call, send: the values of the arguments join into the parameters of each body that can be meant, whose beginning is reached then");
        load("push 3 null call Main.q #0 pop push 9 new A call Main.q #1 pop back", BODIES);
        range(5, 0, 3, 9);
        refs(5, 1, NULL | 1);
        range(0, 12, 3, 9);
        range(1, 12, 3, 9);
        noFacts(1, 12);
        reached(6, false);
        reached(7, false);
        // main can be called as well
        load("#0 read push 0 eq a call Main.main a : #1 back");
        errors(0, 256);
        errors(1, 768);
    }

    private static void callsThatEnd() {
        C.sentence("the join of the results of those bodies that can end, no way if there is none");
        load("#0 call Main.r #1 back", BODIES);
        errors(0, 256 + 512);
        errors(1, 0);
        load("#0 call Main.s #1 pop back", BODIES);
        errors(0, 256 + 512 + 128);
        errors(1, 0);
        load("#0 call Main.t #1 back", BODIES);
        errors(0, 256);
        errors(1, 768);
        // one that calls itself without an end
        load("#0 call Main.u back", "static u ( ) none 0 { #1 call Main.u #2 back } ");
        errors(0, 256 + 512);
        errors(1, 256 + 512);
        errors(2, 0);
        // and one with an end
        load("push 5 #0 call Main.v #1 pop back", "static v ( int ) int 1 { #2 load 0 push 0 le a load 0 push 1 sub call Main.v give a : push 7 give } ");
        errors(0, 256);
        range(1, 12, 7, 7);
        range(2, 0, 0, 5);
    }

    private static void sends() {
        C.sentence("for send: of each site's; the object's own value: those sites");
        load("new A store 0 read push 0 eq a new B store 0 read push 0 eq a new D store 0 read push 0 eq a null store 0 a : load 0 #0 send A.m #1 pop back");
        errors(0, 256 + 1);
        range(1, 12, 1, 2);
        refs(1, 0, 7);
        refs(8, 0, 1);
        refs(9, 0, 6);
        load("new D send A.m #1 pop back");
        range(1, 12, 2, 2);
        errors(8, 0);
        refs(9, 0, 1);
        // one of the two can't end
        whole("class Main of Object { static main ( ) none 1 { new P store 0 read push 0 eq a new Q store 0 a : load 0 #0 send P.m #1 pop back } } "
            + "class P of Object { method m ( ) int 1 { a : goto a } } class Q of P { method m ( ) int 1 { push 6 give } }");
        errors(0, 256);
        range(1, 12, 6, 6);
    }

    private static void gives() {
        C.sentence("give: the value joins into the body's result");
        load("read call Main.q #0 pop call Main.r #1 pop back", "static q ( int ) int 1 { load 0 push 0 lt a push 3 give a : push 8 give } "
            + "static r ( ) A 0 { read push 0 eq a null give a : new B give } ");
        range(0, 12, 3, 8);
        noFacts(0, 12);
        refs(1, 12, NULL | 1);
    }

    private static void nullErrors() {
        C.sentence("NullError if NULL is in what is dereferenced or thrown");
        for (int k = 0; k <= USES.length; k++) {
            String[] u = k < USES.length ? USES[k] : new String[] {"new E", "#0 throw"};
            int thrown = k < USES.length ? 0 : 64 + 512;
            load(u[0] + " " + u[1] + " back");
            errors(0, 256 + thrown);
            load("null " + u[1] + " back");
            errors(0, 256 + 512 + 1);
            load("read push 0 eq a null goto b a : " + u[0] + " b : " + u[1] + " back");
            errors(0, 256 + thrown + 1);
        }
    }

    private static void sizeErrors() {
        C.sentence("SizeError if the count's lowest is below 0");
        for (int n : new int[] {MIN, -2, -1, 0, 1, MAX}) {
            load("push " + n + " #0 array int pop back");
            errors(0, 256 + (n < 0 ? 4 + 512 : 0));
            ends(n < 0 ? 1L << 50 : 0);
        }
        load("read push 1 and #0 array int pop back");
        errors(0, 256);
        load("read #0 array int pop back");
        errors(0, 256 + 4);
    }

    private static void castErrors() {
        C.sentence("CastError if a site is not T or below");
        String[] fine = {"new B #0 cast A", "new B #0 cast B", "push 1 array B #0 cast A[]", "push 1 array int #0 cast Object", "push 1 array int #0 cast int[]", "null #0 cast D"};
        String[] wrong = {"new B #0 cast D", "new B #0 cast A[]", "push 1 array A #0 cast B[]", "push 1 array int #0 cast Object[]", "push 1 array A #0 cast int[]",
            "push 1 array A #0 cast A"};
        for (String lines : fine) {
            load(lines + " pop back");
            errors(0, 256);
        }
        for (String lines : wrong) {
            load(lines + " pop back");
            errors(0, 256 + 16 + 512);
            ends(1L << 52);
        }
    }

    private static void throwing() {
        C.sentence("What it may throw: these errors' sites, throw's sites, and those that the bodies called can throw");
        load("null store 0 read push 0 eq c new E store 0 read push 0 eq c new F store 0 c : load 0 #0 throw");
        escape(0, 1L << 48 | 3);
        ends(1L << 48 | 3);
        load("#0 call Main.q back", "static q ( ) none 0 { read push 0 eq a new E throw a : push 1 read div pop call Main.r back } static r ( ) none 0 { read array int pop back } ");
        escape(0, 1L << 50 | 1L << 51 | 1);
        ends(1L << 50 | 1L << 51 | 1);
        errors(0, 256 + 128);
        // by send those of the bodies that are meant
        whole("class Main of Object { static main ( ) none 1 { new Q #0 send P.m back } } "
            + "class P of Object { method m ( ) none 1 { null throw } } class Q of P { method m ( ) none 1 { push 0 push 0 div pop back } }");
        errors(0, 256 + 512 + 128);
        ends(1L << 51);
    }

    private static void catching() {
        C.sentence("They go to the catches of the body whose FROM to TO has the instruction, in the order of the text: those sites that are CLASS or below bring (if there are such) "
            + "the state of the instruction's locals, as they came to it, with them as the stack to AT, the others go on; what is left over the body can throw");
        String lines = "push 4 store 0 a : read #0 array int length read #1 div store 0 b : back c : #2 pop back d : #3 pop back e : #4 pop back ";
        load(lines + "catch a b c NullError catch a b d SizeError catch a b e DivideError");
        errors(0, 256 + 4);
        errors(1, 256 + 8);
        errors(2, 0);
        refs(3, 12, 1L << 50);
        refs(4, 12, 1L << 51);
        range(3, 0, 4, 4);
        range(4, 0, 4, 4);
        noFacts(4, 12);
        unset(4, 13);
        ends(0);
        escape(0, 0);
        // the first one takes all that it can
        load(lines + "catch a b c Error catch a b d SizeError");
        refs(2, 12, 1L << 50 | 1L << 51);
        errors(3, 0);
        load(lines + "catch a b d SizeError catch a b c Error");
        refs(2, 12, 1L << 51);
        refs(3, 12, 1L << 50);
        load(lines + "catch a b d SizeError");
        ends(1L << 51);
        escape(0, 0);
        escape(1, 1L << 51);
        // the locals as they came: the NULL that the instruction takes away is still there
        load("null store 0 read push 0 eq c new A store 0 c : load 0 a : get A.n b : #0 pop back d : #1 pop back catch a b d Error");
        refs(0, 0, 1);
        refs(1, 0, NULL | 1);
        refs(1, 12, 1L << 48);
        // the class's own sites and those below, and none beside it
        load("read push 0 eq f new E store 0 goto a f : new F store 0 a : load 0 #0 throw b : c : #1 pop back d : #2 pop back catch a b c F catch a b d NullError");
        refs(1, 12, 2);
        errors(2, 0);
        escape(0, 1);
        ends(1);
    }

    private static void catchEdges() {
        C.sentence("the catches of the body whose FROM to TO has the instruction");
        String[] lines = {"a : read b : array int pop back d : #0 pop back", "read a : array int b : pop back d : #0 pop back",
            "read array int a : pop b : back d : #0 pop back", "a : read array int pop back b : d : #0 pop back"};
        boolean[] caught = {false, true, false, true};
        for (int k = 0; k < lines.length; k++) {
            load(lines[k] + " catch a b d Error");
            ends(caught[k] ? 0 : 1L << 50);
            reached(0, caught[k]);
        }
        // a catch of another body takes nothing
        load("call Main.q back", "static q ( ) none 0 { null throw } static r ( ) none 0 { a : read pop b : back c : pop back catch a b c Error } ");
        ends(1L << 48);
    }

    private static void errorBits() {
        C.sentence("64 if it is a throw with sites, 128 if a body that it calls can throw; 256 if it is reached, 512 if it is reached and brings no state along an edge but to a catch. -1 if there is none");
        load("new E #0 throw");
        errors(0, 256 + 512 + 64);
        load("a : new E #0 throw b : c : #1 pop back catch a b c Error");
        errors(0, 256 + 512 + 64);
        errors(1, 256);
        load("null #0 throw");
        errors(0, 256 + 512 + 1);
        load("#0 call Main.q back", "static q ( ) none 0 { a : #1 call Main.r b : #2 back c : #3 pop #4 back catch a b c Error } static r ( ) none 0 { new E throw } ");
        errors(0, 256);
        errors(1, 256 + 512 + 128);
        errors(2, 0);
        errors(3, 256);
        errors(4, 768);
        load("call Main.q pop back", "static q ( ) int 0 { push 1 #0 give } ");
        errors(0, 768);
        load("#0 goto a a : #1 back #2 push 1 pop back");
        errors(0, 256);
        errors(1, 768);
        errors(2, 0);
        C.due("errors of the last one", x.errors(x.size(0) - 1), 0);
        for (int i : new int[] {MIN, -1, x.size(0), 1023, 1024, MAX}) {
            C.due("errors(" + i + ")", x.errors(i), -1);
        }
    }

    private static void escapes() {
        C.sentence("The sites that instruction i may throw that no catch of its body takes: bit s for site s; 0 if there is none");
        load("a : #0 push 1 read #1 div pop b : null store 0 read push 0 eq c new E store 0 c : load 0 #2 throw d : pop back catch a b d Error");
        escape(0, 0);
        escape(1, 0);
        escape(2, 1L << 48 | 1);
        for (int i : new int[] {MIN, -1, x.size(0), 1023, 1024, MAX}) {
            C.due("escapes(" + i + ")", x.escapes(i), 0);
        }
        C.sentence("The sites that can be thrown out of main; 0 also if there is no program");
        ends(1L << 48 | 1);
        C.due("ends() without a program", new SafeCode().ends(), 0);
        load("back");
        ends(0);
        // what another body throws that main does not call
        load("back", "static q ( ) none 0 { null throw } ");
        ends(0);
    }

    private static void slotNumbers() {
        C.sentence("Of slot s of the state of instruction i (0 .. 11 the locals, 12 .. 19 the stack from below): 0 unset or none such or not reached, 1 a range, 2 a set of sites");
        StringBuilder lines = new StringBuilder();
        for (int k = 0; k < 12; k++) {
            lines.append("push ").append(100 + k * 10).append(" store ").append(k).append(' ');
        }
        for (int k = 0; k < 8; k++) {
            lines.append(k % 2 == 0 ? "push " + (-100 - k * 10) + " " : "null ");
        }
        whole(Checks.main(12, lines + "goto a a : #0 back #1 push 1 pop back"));
        for (int k = 0; k < 12; k++) {
            range(0, k, 100 + k * 10, 100 + k * 10);
            unsetAt(k * 2, k);
            unset(1, k);
        }
        for (int k = 0; k < 8; k++) {
            if (k % 2 == 0) {
                range(0, 12 + k, -100 - k * 10, -100 - k * 10);
            } else {
                refs(0, 12 + k, NULL);
            }
            unsetAt(24 + k, 12 + k);
            unset(1, 12 + k);
        }
        for (int odd : new int[] {MIN, -1, 20, 21, 32, MAX}) {
            unset(0, odd);
        }
        for (int odd : new int[] {MIN, -1, x.size(0), x.size(0) + 1, 1024, MAX}) {
            unsetAt(odd, 0);
            unsetAt(odd, 12);
        }
        // the first of all slots is there: no other one answers as it
        whole("class A of Object { static s ( int ) none 2 { #0 push 1 #1 pop back } } " + Checks.main(1, "push 44 call A.s #2 back push 1 pop back"));
        range(0, 0, 44, 44);
        unset(0, 1);
        unset(0, 2);
        unset(0, 12);
        unset(1, 13);
        unset(2, 0);
        unsetAt(AT[2] + 1, 0);
        for (int odd : new int[] {MIN, -20, -1, 20, 40, MAX}) {
            unset(0, odd);
            unsetAt(odd < 0 ? odd : odd + 1000, 0);
        }
        // locals that the body has not, though another one has them
        whole("class Main of Object { static main ( ) none 2 { push 1 store 1 #0 back } static q ( int int int ) none 3 { #1 back } }");
        unset(0, 0);
        range(0, 1, 1, 1);
        unset(0, 2);
        unset(1, 0);
        C.sentence("The lowest of its range; 0 if it has none. The highest of its range; 0 if it has none. Its sites, bit 62 for NULL; 0 if it has none");
        whole(Checks.main(3, "read store 0 null store 1 #0 back"));
        range(0, 0, MIN, MAX);
        refs(0, 1, NULL);
        unset(0, 2);
    }

    private static void facts() {
        C.sentence("Its COPY (0): the local, -1 none; as sums of 1 << k its LESS (1), UNDER (2), LENGTH (3), SIZED (4). 0 for all else, -1 for COPY");
        // local 0 is less than 1 to 11, and comes as a copy
        StringBuilder lines = new StringBuilder();
        for (int k = 0; k < 12; k++) {
            lines.append("read store ").append(k).append(' ');
        }
        for (int k = 1; k < 12; k++) {
            lines.append("load 0 load ").append(k).append(" ge z ");
        }
        whole(Checks.main(12, lines + "load 0 load 11 #0 back z : back"));
        facts(0, 0, -1, 0xffe, 0, 0, 0);
        facts(0, 12, 0, 0xffe, 0, 0, 0);
        facts(0, 13, 11, 0, 0, 0, 0);
        for (int which : new int[] {MIN, -1, 5, 6, MAX}) {
            C.due("fact(#0, 12, " + which + ")", x.fact(AT[0], 12, which), 0);
            C.due("fact(#0, 13, " + which + ")", x.fact(AT[0], 13, which), 0);
        }
        // under the array in local 11, its length, and the size in local 11
        whole(Checks.main(12, "push 9 array int store 11 read store 0 load 0 load 11 length ge z load 11 length store 1 #0 push 6 store 11 #1 load 11 array int #2 store 2 #3 back z : back"));
        facts(0, 0, -1, 0, 1 << 11, 0, 0);
        facts(0, 1, -1, 0, 0, 1 << 11, 0);
        noFacts(1, 0);
        noFacts(1, 1);
        facts(2, 12, -1, 0, 0, 0, 1 << 11);
        facts(3, 2, -1, 0, 0, 0, 1 << 11);
    }

    private static void siteLengths() {
        C.sentence("Of site s the lowest (0) or highest (1) of the lengths of its arrays; -1 if it has none");
        load("read push 7 and array int pop new A pop push 3 array int pop push -1 array A pop back push 3 array int pop back");
        int[][] due = {{0, 7}, {-1, -1}, {3, 3}, {-1, -1}, {-1, -1}};
        for (int s = 0; s < 5; s++) {
            C.due("lengths(" + s + ", 0)", x.lengths(s, 0), due[s][0]);
            C.due("lengths(" + s + ", 1)", x.lengths(s, 1), due[s][1]);
        }
        for (int s : new int[] {MIN, -1, 5, 47, 48, 49, 53, 54, 62, 63, 64, MAX}) {
            C.due("lengths(" + s + ", 0)", x.lengths(s, 0), -1);
            C.due("lengths(" + s + ", 1)", x.lengths(s, 1), -1);
        }
        for (int which : new int[] {MIN, -1, 2, MAX}) {
            C.due("lengths(0, " + which + ")", x.lengths(0, which), -1);
        }
        // as many sites as can be
        load("push 3 array int pop ".repeat(48) + "back");
        for (int s = -1; s < 56; s++) {
            C.due("lengths(" + s + ", 0)", x.lengths(s, 0), s >= 0 && s < 48 ? 3 : -1);
            C.due("lengths(" + s + ", 1)", x.lengths(s, 1), s >= 0 && s < 48 ? 3 : -1);
        }
    }
}
