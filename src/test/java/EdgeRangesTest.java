import java.util.Arrays;
import java.util.TreeSet;

/** Terms 6 with promises 7, 11 and 12, sentence by sentence: thresholds, ranges, calculations and comparisons. */
final class EdgeRangesTest {
    private static final Checks C = new Checks();
    private static final int MIN = Integer.MIN_VALUE;
    private static final int MAX = Integer.MAX_VALUE;
    /** The lowest and the highest of the ranges that are tried with one another. */
    private static final int[][] RANGES = {
        {MIN, MAX}, {MIN, -1}, {MIN, 0}, {MIN, MIN}, {MIN, MIN + 1}, {MIN + 1, MIN + 1}, {MIN + 1, MAX}, {MIN, MAX - 1}, {MIN, 5}, {-7, MAX},
        {0, 0}, {0, 1}, {0, MAX}, {1, 1}, {1, MAX}, {-1, -1}, {-1, 0}, {-1, 1}, {-1, MAX}, {-7, -3}, {-7, 0}, {-5, 6}, {3, 7}, {4, 8}, {0, 9},
        {5, 5}, {8, 8}, {31, 31}, {32, 32}, {33, 33}, {-32, -32}, {MAX, MAX}, {MAX - 1, MAX}, {MAX - 1, MAX - 1}, {65536, 65536}};
    private static final int[] ALL = {MIN, MAX};

    public static void main(String[] args) {
        thresholds();
        leastRange();
        calculations();
        negatives();
        incs();
        divisionByNothingElse();
        divideErrors();
        comparisons();
        notTaken();
        C.close();
    }

    private static SafeCode load(String lines) {
        return C.fine(Checks.main(6, lines));
    }

    private static void thresholds() {
        C.sentence("THRESHOLDS: -2147483648, -2147483647, -1, 0, 1, 2147483646, 2147483647, and n - 1, n, n + 1 for each N of push and inc, as far as they are ints");
        C.due("size(3)", load("back").size(3), 7);
        int[][] due = {{MIN, 7}, {MAX, 7}, {MIN + 1, 8}, {MAX - 1, 8}, {MIN + 2, 9}, {MAX - 2, 9}, {0, 7}, {-1, 8}, {1, 8}, {2, 9}, {-2, 9}, {3, 10}, {100, 10}};
        for (int[] d : due) {
            C.due("size(3) with " + d[0], load("push " + d[0] + " pop back").size(3), d[1]);
            C.due("size(3) with " + d[0], load("push 0 store 0 inc 0 " + d[0] + " back").size(3), d[1]);
            C.due("size(3) with " + d[0] + " twice", load("push " + d[0] + " pop push " + d[0] + " pop back").size(3), d[1]);
            C.due("size(3) with " + d[0] + " that is not reached", load("back push " + d[0] + " pop back").size(3), d[1]);
        }
        C.due("size(3)", load("push 5 pop push 6 pop push 8 pop back").size(3), 13);
        // K of load, store and inc is none
        C.due("size(3)", load("push 0 store 5 load 5 pop inc 5 0 back").size(3), 7);
        // as many as can be: three for each instruction
        StringBuilder many = new StringBuilder();
        for (int k = 1; k <= 508; k++) {
            many.append("push ").append(k * 10).append(" pop ");
        }
        C.due("size(3)", load(many + "back").size(3), 7 + 3 * 508);
        many = new StringBuilder("push 0 store 0 ");
        for (int k = 1; k <= 1021; k++) {
            many.append("inc 0 ").append(k * 4).append(' ');
        }
        C.due("size(3)", load(many + "back").size(3), 7 + 3 * 1021);
    }

    private static TreeSet<Long> ends(int... ns) {
        TreeSet<Long> all = new TreeSet<>();
        for (long n : new long[] {MIN, MIN + 1L, -1, 0, 1, MAX - 1L, MAX}) {
            all.add(n);
        }
        for (long n : ns) {
            for (long t = n - 1; t <= n + 1; t++) {
                if (t == (int) t) {
                    all.add(t);
                }
            }
        }
        return all;
    }

    /** The least range that has l to h; all ints if one is no int. */
    private static int[] around(TreeSet<Long> ends, long l, long h) {
        if (l != (int) l || h != (int) h) {
            return ALL;
        }
        return new int[] {(int) (long) ends.floor(l), (int) (long) ends.ceiling(h)};
    }

    private static void range(String what, SafeCode x, int i, int s, int[] due) {
        C.due("kind of " + what, x.kind(i, s), 1);
        C.due("low of " + what, x.low(i, s), due[0]);
        C.due("high of " + what, x.high(i, s), due[1]);
    }

    private static void leastRange() {
        C.sentence("RANGES have thresholds as ends. [l, h] stands for the least range that has l to h; if l or h is no int, for all ints");
        range("10", load("push 10 pop back"), 1, 12, new int[] {10, 10});
        range("9", load("push 10 push 1 sub pop back"), 3, 12, new int[] {9, 9});
        range("12", load("push 10 push 2 add pop back"), 3, 12, new int[] {11, MAX - 1});
        range("8", load("push 10 push 2 sub pop back"), 3, 12, new int[] {3, 9});
        range("-2", load("push -1 push 1 sub pop back"), 3, 12, new int[] {-2, -2});
        range("-3", load("push -1 push 2 sub pop back"), 3, 12, new int[] {MIN + 1, -2});
        range("2147483647", load("push 2147483646 push 1 add pop back"), 3, 12, new int[] {MAX, MAX});
        range("2147483648", load("push 2147483646 push 2 add pop back"), 3, 12, ALL);
        range("-2147483648", load("push -2147483647 push 1 sub pop back"), 3, 12, new int[] {MIN, MIN});
        range("-2147483649", load("push -2147483647 push 2 sub pop back"), 3, 12, ALL);
        range("2147483645", load("push 2147483646 push 1 sub pop back"), 3, 12, new int[] {MAX - 2, MAX - 2});
        range("2147483644", load("push 2147483646 push 2 sub pop back"), 3, 12, new int[] {3, MAX - 2});
    }

    /** Lines that leave a number of the range a in local 0 and one of b in local 1: sixteen instructions. */
    private static String locals(int[] a, int[] b) {
        return String.format("read store 0 load 0 push %d lt z load 0 push %d gt z read store 1 load 1 push %d lt z load 1 push %d gt z ", a[0], a[1], b[0], b[1]);
    }

    private static final int BEHIND = 16;

    /** What the operation leaves, as the document tells it; null if there is no way on. */
    private static int[] due(String op, int[] a, int[] b, TreeSet<Long> ends) {
        long[] sorted;
        switch (op) {
            case "add": return around(ends, (long) a[0] + b[0], (long) a[1] + b[1]);
            case "sub": return around(ends, (long) a[0] - b[1], (long) a[1] - b[0]);
            case "mul":
                sorted = new long[] {(long) a[0] * b[0], (long) a[0] * b[1], (long) a[1] * b[0], (long) a[1] * b[1]};
                Arrays.sort(sorted);
                return around(ends, sorted[0], sorted[3]);
            case "div":
                TreeSet<Long> quotients = new TreeSet<>();
                for (long d : new long[] {-1, 1, b[0], b[1]}) {
                    if (d != 0 && d >= b[0] && d <= b[1]) {
                        quotients.add(a[0] / d);
                        quotients.add(a[1] / d);
                    }
                }
                return quotients.isEmpty() ? null : around(ends, quotients.first(), quotients.last());
            case "rem":
                long m = Math.max(Math.abs((long) b[0]), Math.abs((long) b[1])) - 1;
                if (b[0] == 0 && b[1] == 0) {
                    return null;
                }
                if (a[0] >= 0) {
                    return around(ends, 0, Math.min(a[1], m));
                }
                return a[1] <= 0 ? around(ends, Math.max(a[0], -m), 0) : around(ends, Math.max(a[0], -m), Math.min(a[1], m));
            case "and":
                if (a[0] >= 0 && b[0] >= 0) {
                    return around(ends, 0, Math.min(a[1], b[1]));
                }
                return a[0] >= 0 ? around(ends, 0, a[1]) : b[0] >= 0 ? around(ends, 0, b[1]) : ALL;
            case "shl":
                long by = 1L << (b[0] & 31);
                return b[0] == b[1] ? around(ends, a[0] * by, a[1] * by) : ALL;
            case "shr":
                return b[0] == b[1] ? around(ends, a[0] >> (b[0] & 31), a[1] >> (b[0] & 31)) : around(ends, Math.min(a[0], 0), Math.max(a[1], -1));
            default:
                long all = 0;
                while (all < a[1] || all < b[1]) {
                    all = all * 2 + 1;
                }
                return a[0] >= 0 && b[0] >= 0 ? around(ends, 0, all) : ALL;
        }
    }

    private static final String[][] OPS = {
        {"add", "neg, add, sub: [the least, the greatest result]"}, {"sub", "neg, add, sub: [the least, the greatest result]"},
        {"mul", "mul: so of the four products of ends"},
        {"div", "div: no way on if the right range is [0, 0]; else of the quotients, cut, of both left ends by those of -1, 1 and the right ends "
            + "that are in the right range and not 0 (-2147483648 / -1 is 2147483648 here)"},
        {"rem", "rem: likewise no way; m the greatest amount of a right end, less 1: [0, min(h, m)] .. [max(l, -m), 0] .. else [max(l, -m), min(h, m)]"},
        {"and", "and: both from 0 on: [0, the lesser h]; one: [0, its h]; else all ints"},
        {"or", "or, xor: both from 0 on: [0, the least 2^k - 1 not below the two h]; else all ints"},
        {"xor", "or, xor: both from 0 on: [0, the least 2^k - 1 not below the two h]; else all ints"},
        {"shl", "shl: by a range [s, s] with s & 31: as mul by [2^s, 2^s] (2^31 as a number above 0); else all ints"},
        {"shr", "shr: by such a range the ends shifted; else [min(l, 0), max(h, -1)]"}};

    private static void calculations() {
        for (String[] op : OPS) {
            C.sentence(op[1]);
            for (int[] a : RANGES) {
                for (int[] b : RANGES) {
                    String what = op[0] + " of " + a[0] + " to " + a[1] + " and " + b[0] + " to " + b[1];
                    SafeCode x = load(locals(a, b) + "load 0 load 1 " + op[0] + " pop z : back");
                    range(what + " (a)", x, BEHIND, 0, a);
                    range(what + " (b)", x, BEHIND, 1, b);
                    int[] due = due(op[0], a, b, ends(a[0], a[1], b[0], b[1]));
                    C.due(what + " goes on", x.errors(BEHIND + 3) != 0, due != null);
                    if (due != null) {
                        range(what, x, BEHIND + 3, 12, due);
                    }
                }
            }
        }
    }

    private static void negatives() {
        C.sentence("neg, add, sub: [the least, the greatest result]");
        for (int[] a : RANGES) {
            SafeCode x = load(locals(a, ALL) + "load 0 neg pop z : back");
            range("neg of " + a[0] + " to " + a[1], x, BEHIND + 2, 12, around(ends(a[0], a[1], MIN, MAX), -(long) a[1], -(long) a[0]));
        }
    }

    private static void incs() {
        C.sentence("inc k: local k is changed, and then is its range + [N, N] (as for add)");
        for (int[] a : RANGES) {
            for (int n : new int[] {MIN, -1, 0, 1, 7, MAX}) {
                SafeCode x = load(locals(a, ALL) + "inc 0 " + n + " z : back");
                String what = "inc by " + n + " of " + a[0] + " to " + a[1];
                C.due("kind of " + what, x.kind(BEHIND + 1, 0), 1);
                // the back is come to from z as well: another one stands before it
                x = load(locals(a, ALL) + "inc 0 " + n + " goto y y : back z : back");
                range(what, x, BEHIND + 1, 0, around(ends(a[0], a[1], MIN, MAX, n), (long) a[0] + n, (long) a[1] + n));
            }
        }
    }

    private static void divisionByNothingElse() {
        C.sentence("div: no way on if the right range is [0, 0] .. rem: likewise no way");
        for (String op : new String[] {"div", "rem"}) {
            SafeCode x = load("push 5 push 0 " + op + " pop back");
            C.due("errors(2)", x.errors(2), 256 + 512 + 8);
            C.due("errors(3)", x.errors(3), 0);
            C.due("escapes(2)", x.escapes(2), 1L << 51);
            C.due("ends()", x.ends(), 1L << 51);
        }
    }

    private static void divideErrors() {
        C.sentence("DivideError if 0 is in the right range");
        for (int[] b : RANGES) {
            for (String op : new String[] {"div", "rem"}) {
                SafeCode x = load(locals(ALL, b) + "load 0 load 1 " + op + " pop z : back");
                boolean raises = b[0] <= 0 && b[1] >= 0;
                boolean on = b[0] != 0 || b[1] != 0;
                C.due(op + " by " + b[0] + " to " + b[1], x.errors(BEHIND + 2), 256 + (raises ? 8 : 0) + (on ? 0 : 512));
                C.due("escapes of " + op, x.escapes(BEHIND + 2), raises ? 1L << 51 : 0);
                C.due("ends()", x.ends(), raises ? 1L << 51 : 0);
            }
        }
    }

    private static int[] cut(TreeSet<Long> ends, int[] range, long l, long h) {
        long low = Math.max(range[0], l);
        long high = Math.min(range[1], h);
        return low > high ? null : common(around(ends, low, high), range);
    }

    private static int[] common(int[] p, int[] q) {
        int low = Math.max(p[0], q[0]);
        int high = Math.min(p[1], q[1]);
        return low > high ? null : new int[] {low, high};
    }

    private static int[] without(TreeSet<Long> ends, int[] range, int[] other) {
        if (other[0] != other[1]) {
            return range;
        }
        long low = range[0] == other[0] ? range[0] + 1L : range[0];
        long high = range[1] == other[0] ? range[1] - 1L : range[1];
        return low > high ? null : common(around(ends, low, high), range);
    }

    /** What a and b are cut to where the relation holds. */
    private static int[][] held(String op, int[] a, int[] b, TreeSet<Long> ends) {
        switch (op) {
            case "lt": return new int[][] {cut(ends, a, MIN, b[1] - 1L), cut(ends, b, a[0] + 1L, MAX)};
            case "le": return new int[][] {cut(ends, a, MIN, b[1]), cut(ends, b, a[0], MAX)};
            case "gt": return new int[][] {cut(ends, a, b[0] + 1L, MAX), cut(ends, b, MIN, a[1] - 1L)};
            case "ge": return new int[][] {cut(ends, a, b[0], MAX), cut(ends, b, MIN, a[1])};
            case "eq": return new int[][] {common(a, b), common(a, b)};
            default: return new int[][] {without(ends, a, b), without(ends, b, a)};
        }
    }

    private static final String[][] RELATIONS = {
        {"lt", "ge", "a < b: a's range is cut to what is below b's highest, b's to what is above a's lowest"},
        {"le", "gt", "a <= b: likewise with not above and not below"}, {"gt", "le", "> and >= with a and b exchanged"},
        {"ge", "lt", "> and >= with a and b exchanged"}, {"eq", "ne", "a = b: both ranges become the common part"},
        {"ne", "eq", "a # b: is one range [c, c], an end of the other one that is c is cut away (both, looked at as they came)"}};

    private static void comparisons() {
        for (String[] r : RELATIONS) {
            C.sentence(r[2]);
            for (int[] a : RANGES) {
                for (int[] b : RANGES) {
                    SafeCode x = load(locals(a, b) + "load 0 load 1 " + r[0] + " y back y : back z : back");
                    TreeSet<Long> ends = ends(a[0], a[1], b[0], b[1]);
                    String what = r[0] + " of " + a[0] + " to " + a[1] + " and " + b[0] + " to " + b[1];
                    way(what + " that holds", x, BEHIND + 4, held(r[0], a, b, ends));
                    way(what + " that does not hold", x, BEHIND + 3, held(r[1], a, b, ends));
                }
            }
        }
    }

    private static void way(String what, SafeCode x, int i, int[][] due) {
        boolean taken = due[0] != null && due[1] != null;
        C.due(what + " is taken", x.errors(i), taken ? 768 : 0);
        for (int s = 0; s < 2; s++) {
            if (taken) {
                range(what, x, i, s, due[s]);
            } else {
                C.due("kind of " + what, x.kind(i, s), 0);
            }
        }
    }

    private static void notTaken() {
        C.sentence("CUT: the least range that has what is left; nothing left: that way is not taken");
        SafeCode x = load("push 5 push 5 lt a back a : back");
        C.due("errors(3)", x.errors(3), 768);
        C.due("errors(4)", x.errors(4), 0);
        x = load("push 5 push 5 le a back a : back");
        C.due("errors(3)", x.errors(3), 0);
        C.due("errors(4)", x.errors(4), 768);
        x = load("push 5 push 6 eq a back a : back");
        C.due("errors(4)", x.errors(4), 0);
        x = load("push 5 push 5 ne a back a : back");
        C.due("errors(4)", x.errors(4), 0);
        C.sentence("is its COPY k, local k gets the part of its range that is common with the slot's (none: not taken)");
        // both slots are copies of one local
        x = load("read store 0 load 0 load 0 lt a back a : back");
        range("below itself", x, 6, 0, new int[] {MIN + 1, MAX - 1});
        C.due("fact(6, 0, 1)", x.fact(6, 0, 1), 1);
        x = load("push 5 store 0 load 0 load 0 ne a back a : back");
        C.due("errors(6)", x.errors(6), 0);
        // the local was cut to another part than the slot
        x = load("read store 0 load 0 load 0 push 3 lt a load 0 pop push 2 lt b back b : back a : pop back");
        range("the local", x, 6, 0, new int[] {3, MAX});
        range("the slot", x, 9, 12, ALL);
        C.due("errors(10)", x.errors(10), 768);
        C.due("errors(11), where nothing is common", x.errors(11), 0);
        x = load("read store 0 load 0 load 0 push 3 lt a push 3 le b back b : back a : pop back");
        range("what is common", x, 9, 0, new int[] {3, 3});
        // a slot that is no copy changes no local
        x = load("read store 0 load 0 push 0 add push 3 lt a back a : back");
        range("local 0", x, 6, 0, ALL);
        range("local 0", x, 7, 0, ALL);
    }
}
