import java.lang.reflect.Field;

/**
 * Promise 23: strays() counts the steps in which something was met that the state does not tell. As a right system meets
 * none, what was proved is made wrong here behind its back. The document leaves free how the state is held: where it is
 * held otherwise than this test knows, it only sees that a right system has no strays.
 */
final class StraysTest {
    private static final Checks C = new Checks();
    private static final int SLOTS = 20;
    private static final long INT = 1L << 52;
    private static final long REF = 2L << 52;
    private static final long NULL = 1L << 62;
    // 0 .. 2 array, 3 4 number, 5 .. 7 their comparison's operands, 9 .. 11 a use, 12 .. 14 another array by its size
    private static final String LINES = "push 5 array int store 1 push 3 store 0 load 0 load 1 length ge z load 1 load 0 aload pop load 0 array Main store 2 null store 3 z : back";
    private static final int BACK = 18;
    private static final int STEPS = 19;

    public static void main(String[] args) throws ReflectiveOperationException {
        nothing();
        if (isHeldAsKnown()) {
            makeWrong();
        } else {
            System.out.println("LOOK HERE: the state is held otherwise than this test knows; nothing was made wrong");
        }
        C.close();
    }

    private static boolean isHeldAsKnown() throws IllegalAccessException {
        SafeCode x = load();
        try {
            return part(part(x, "proof"), "found") instanceof int[] && part(states(x), "reached") instanceof boolean[]
                && part(states(x), "values") instanceof long[] && part(states(x), "facts") instanceof long[];
        } catch (NoSuchFieldException e) {
            return false;
        }
    }

    private static void makeWrong() throws ReflectiveOperationException {
        rightOnes();
        notReached();
        values();
        copies();
        sets();
        errors();
        countsSteps();
        allRuns();
    }

    private static Object part(Object whole, String name) throws NoSuchFieldException, IllegalAccessException {
        Field field = whole.getClass().getDeclaredField(name);
        field.setAccessible(true);
        return field.get(whole);
    }

    private static Object states(SafeCode x) throws NoSuchFieldException, IllegalAccessException {
        return part(part(x, "proof"), "states");
    }

    private static SafeCode load() {
        return C.fine(Checks.main(6, LINES));
    }

    private static long range(int low, int high) {
        return (long) low << 32 | high & 0xffffffffL;
    }

    /** Before its back, slot s is said to be this; the run then has so many strays. */
    private static void says(int s, long value, long facts, int strays) throws ReflectiveOperationException {
        SafeCode x = load();
        ((long[]) part(states(x), "values"))[BACK * SLOTS + s] = value;
        ((long[]) part(states(x), "facts"))[BACK * SLOTS + s] = facts;
        C.due("run", x.run(99), 0);
        C.due("steps()", x.steps(), STEPS);
        C.due("strays() where slot " + s + " is " + Long.toHexString(value) + " with " + Long.toHexString(facts), x.strays(), strays);
    }

    private static void nothing() {
        C.sentence("In a right system never");
        SafeCode x = load();
        C.due("run", x.run(99), 0);
        C.due("steps()", x.steps(), STEPS);
        C.due("place()", x.place(), BACK);
        C.due("strays()", x.strays(), 0);
    }

    private static void rightOnes() throws ReflectiveOperationException {
        C.sentence("In a right system never");
        says(0, range(3, 3), INT, 0);
        says(1, 1, REF, 0);
        says(2, 2, REF, 0);
        says(3, NULL, REF, 0);
        says(4, 0, 0, 0);
    }

    private static void notReached() throws ReflectiveOperationException {
        C.sentence("an instruction not reached");
        SafeCode x = load();
        ((boolean[]) part(states(x), "reached"))[BACK] = false;
        C.due("run", x.run(99), 0);
        C.due("strays()", x.strays(), 1);
        x = load();
        ((boolean[]) part(states(x), "reached"))[BACK] = false;
        C.due("run", x.run(STEPS - 1), 2);
        C.due("strays(), where it is not begun", x.strays(), 0);
    }

    private static void values() throws ReflectiveOperationException {
        C.sentence("a value outside of its slot");
        says(0, range(3, 9), INT, 0);
        says(0, range(-2, 3), INT, 0);
        says(0, range(4, 9), INT, 1);
        says(0, range(-2, 2), INT, 1);
        says(1, 2, REF, 1);
        says(1, NULL, REF, 1);
        says(1, NULL | 3, REF, 0);
        says(3, 1, REF, 1);
        says(3, 1 | NULL, REF, 0);
        says(0, 1, REF, 1);
        says(1, range(Integer.MIN_VALUE, Integer.MAX_VALUE), INT, 1);
        says(4, range(Integer.MIN_VALUE, Integer.MAX_VALUE), INT, 1);
        says(4, NULL, REF, 1);
        says(0, 0, 0, 0);
    }

    private static void copies() throws ReflectiveOperationException {
        C.sentence("a fact that does not hold (COPY)");
        for (int k = 0; k < 6; k++) {
            says(0, range(3, 3), INT | (k + 1L) << 48, k == 0 ? 0 : 1);
            says(1, 1, REF | (k + 1L) << 48, k == 1 ? 0 : 1);
        }
    }

    private static void sets() throws ReflectiveOperationException {
        C.sentence("a fact that does not hold (LESS, UNDER, LENGTH, SIZED)");
        // 0 is the number 3, 1 an array of 5, 2 an array of 3, 3 null, 4 and 5 are unset
        for (int k = 0; k < 6; k++) {
            says(0, range(3, 3), INT | 1L << k, 1);
            says(0, range(3, 3), INT | 1L << 12 + k, k == 1 ? 0 : 1);
            says(0, range(3, 3), INT | 1L << 24 + k, k == 2 ? 0 : 1);
            says(1, 1, REF | 1L << 36 + k, 1);
            says(2, 2, REF | 1L << 36 + k, k == 0 ? 0 : 1);
            says(3, NULL, REF | 1L << 36 + k, 1);
        }
        // a number below 0 is no length of null or of nothing, nor under it
        SafeCode x = C.fine(Checks.main(3, "push -1 store 0 null store 1 back"));
        for (int shift : new int[] {12, 24}) {
            for (int k = 0; k < 3; k++) {
                int before = x.strays();
                ((long[]) part(states(x), "facts"))[4 * SLOTS] = INT | 1L << shift + k;
                C.due("run", x.run(99), 0);
                C.due("strays() where -1 is of local " + k, x.strays() - before, 1);
            }
        }
        // it is less than the length of an empty array
        x = C.fine(Checks.main(3, "push -1 store 0 push 0 array int store 1 load 0 load 1 length lt a back a : back"));
        C.due("fact(10, 0, 2)", x.fact(10, 0, 2), 2);
        C.due("run", x.run(99), 0);
        C.due("strays()", x.strays(), 0);
        // 4 is less than 5 alone
        x = C.fine(Checks.main(3, "push 4 store 0 push 4 store 1 push 5 store 2 back"));
        for (int k = 0; k < 3; k++) {
            int before = x.strays();
            ((long[]) part(states(x), "facts"))[6 * SLOTS] = INT | 1L << k;
            C.due("run", x.run(99), 0);
            C.due("strays() where 4 is less than local " + k, x.strays() - before, k == 2 ? 0 : 1);
        }
    }

    private static void errors() throws ReflectiveOperationException {
        C.sentence("an error that it may not raise");
        SafeCode x = C.fine(Checks.main(0, "a : push 1 read div pop b : back c : pop back catch a b c Error"));
        C.due("errors(2)", x.errors(2), 256 + 8);
        int[] found = (int[]) part(part(x, "proof"), "found");
        found[2] = 256 + 1 + 2 + 4 + 16 + 32;
        x.input(1);
        C.due("run", x.run(99), 0);
        C.due("strays()", x.strays(), 0);
        C.due("run", x.run(99), 0);
        C.due("strays()", x.strays(), 1);
        found[2] = 256 + 8;
        C.due("run", x.run(99), 0);
        C.due("strays()", x.strays(), 1);
    }

    private static void countsSteps() throws ReflectiveOperationException {
        C.sentence("In how many steps");
        // two slots and an error are wrong in one step
        SafeCode x = C.fine(Checks.main(1, "push 0 store 0 a : push 1 load 0 div pop b : back c : pop back catch a b c Error"));
        ((int[]) part(part(x, "proof"), "found"))[4] = 256;
        ((long[]) part(states(x), "values"))[4 * SLOTS] = range(1, 1);
        ((long[]) part(states(x), "values"))[4 * SLOTS + 12] = range(7, 7);
        C.due("run", x.run(99), 0);
        C.due("strays()", x.strays(), 1);
        // one instruction in many steps
        x = C.fine(Checks.main(1, "push 10 store 0 a : inc 0 -1 load 0 push 0 gt a back"));
        ((boolean[]) part(states(x), "reached"))[2] = false;
        C.due("run", x.run(99), 0);
        C.due("strays()", x.strays(), 10);
        // the slots of a body that was called, its highest one on the stack too
        x = C.fine("class Main of Object { static main ( ) none 1 { push 6 call Main.q pop back } static q ( int ) int 1 { push 1 push 2 load 0 add add give } }");
        for (int s = 12; s < 15; s++) {
            long[] values = (long[]) part(states(x), "values");
            long old = values[7 * SLOTS + s];
            values[7 * SLOTS + s] = range(5, 5);
            C.due("run", x.run(99), 0);
            C.due("strays()", x.strays(), s - 11);
            values[7 * SLOTS + s] = old;
        }
    }

    private static void allRuns() throws ReflectiveOperationException {
        C.sentence("of all runs so far");
        SafeCode x = load();
        ((boolean[]) part(states(x), "reached"))[0] = false;
        for (int n = 1; n < 4; n++) {
            C.due("run", x.run(99), 0);
            C.due("strays()", x.strays(), n);
        }
        C.due("a run that is refused", x.run(-1), -1);
        C.due("strays()", x.strays(), 3);
        C.due("load", Checks.load(x, Checks.main(0, "back")), 0);
        C.due("run", x.run(9), 0);
        C.due("strays()", x.strays(), 3);
    }
}
