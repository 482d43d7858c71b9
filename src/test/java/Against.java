import java.util.ArrayList;
import java.util.Arrays;
import java.util.List;
import java.util.Random;
import java.util.Set;

/** Holds SafeCode against the Oracle on a text: its fault, or all that is proved, and runs. */
final class Against {
    int wrong;
    private int right;
    private int loaded;
    private Oracle last;
    private final int[] faults = new int[5];
    private final int[] outcomes = new int[5];

    /** A new object of SafeCode has no program yet. */
    SafeCode begin() {
        last = null;
        return new SafeCode();
    }

    /** Ends the test, with exit code 1 if an answer was wrong. */
    void close() {
        System.out.println(right + " answers are as due, " + wrong + " are not; " + loaded + " programs loaded, faults "
            + Arrays.toString(faults) + ", outcomes " + Arrays.toString(outcomes));
        if (wrong != 0 || loaded == 0) {
            System.exit(1);
        }
    }

    private boolean same(String what, long got, long want, String name) {
        if (got == want) {
            right++;
            return true;
        }
        wrong++;
        System.out.println(name + ": " + what + " answered " + got + ", due is " + want);
        return false;
    }

    /** Loads the text and asks for all that the oracle tells. */
    void hold(SafeCode x, String text, String name) {
        if (text.length() > 16000) {
            return;
        }
        Oracle o = new Oracle(text);
        Checks.text(x, text);
        boolean fine = same("load()", x.load(), o.fault, name) && same("faultAt()", x.faultAt(), o.faultAt, name);
        faults[o.fault]++;
        if (fine && o.fault == 0) {
            loaded++;
            last = o;
            fine = proofs(x, o, name) && runs(x, o, name);
        } else if (fine) {
            fine = keeps(x, name);
        }
        if (!fine) {
            System.out.println(text);
        }
    }

    /** A fault leaves the program that was there, and what is proved of it. */
    private boolean keeps(SafeCode x, String name) {
        boolean fine = same("size(0)", x.size(0), last == null ? -1 : last.code.size(), name);
        fine &= same("ends()", x.ends(), last == null ? 0 : bits(last.main.throwing), name);
        for (int i = 0; last != null && i < last.code.size(); i++) {
            fine &= same("errors(" + i + ")", x.errors(i), last.code.get(i).state == null ? 0 : last.code.get(i).errors, name);
        }
        return fine;
    }

    private long bits(Set<Integer> set) {
        long all = 0;
        for (int k : set) {
            all |= 1L << k;
        }
        return all;
    }

    private boolean proofs(SafeCode x, Oracle o, String name) {
        boolean fine = same("size(0)", x.size(0), o.code.size(), name) & same("size(1)", x.size(1), o.siteTypes.size(), name)
            & same("size(2)", x.size(2), o.bodies.size(), name) & same("size(3)", x.size(3), o.thresholds.size(), name)
            & same("size(4)", x.size(4), o.classes.size() - 8, name) & same("ends()", x.ends(), bits(o.main.throwing), name);
        for (int i = 0; i < o.code.size() && fine; i++) {
            Oracle.Ins ins = o.code.get(i);
            boolean reached = ins.state != null;
            fine &= same("errors(" + i + ")", x.errors(i), reached ? ins.errors : 0, name);
            fine &= same("escapes(" + i + ")", x.escapes(i), bits(ins.escaping), name);
            for (int s = 0; s < 20; s++) {
                Oracle.Slot slot = new Oracle.Slot(null);
                if (reached && s < 12 && s < ins.state.locals.length) {
                    slot = ins.state.locals[s];
                } else if (reached && s >= 12 && s - 12 < ins.state.stack.size()) {
                    slot = ins.state.stack.get(s - 12);
                }
                fine &= slot(x, i, s, slot, name);
            }
        }
        for (int s = -1; s < 55; s++) {
            Oracle.Value v = o.lengthsOf(s);
            fine &= same("lengths(" + s + ", 0)", x.lengths(s, 0), v == null ? -1 : v.low(), name);
            fine &= same("lengths(" + s + ", 1)", x.lengths(s, 1), v == null ? -1 : v.high(), name);
        }
        return fine;
    }

    private boolean slot(SafeCode x, int i, int s, Oracle.Slot slot, String name) {
        String at = "(" + i + ", " + s + ")";
        Oracle.Value v = slot.value;
        boolean number = v != null && v.number();
        boolean fine = same("kind" + at, x.kind(i, s), v == null ? 0 : number ? 1 : 2, name);
        fine &= same("low" + at, x.low(i, s), number ? v.low() : 0, name);
        fine &= same("high" + at, x.high(i, s), number ? v.high() : 0, name);
        fine &= same("sites" + at, x.sites(i, s), v == null || number ? 0 : bits(v.sites()), name);
        fine &= same("fact 0" + at, x.fact(i, s, 0), slot.copy, name);
        fine &= same("fact 1" + at, x.fact(i, s, 1), bits(slot.less), name);
        fine &= same("fact 2" + at, x.fact(i, s, 2), bits(slot.under), name);
        fine &= same("fact 3" + at, x.fact(i, s, 3), bits(slot.length), name);
        fine &= same("fact 4" + at, x.fact(i, s, 4), bits(slot.sized), name);
        return fine;
    }

    private boolean runs(SafeCode x, Oracle o, String name) {
        Random random = new Random(name.hashCode());
        boolean fine = true;
        for (int n = 0; n < 4 && fine; n++) {
            List<Integer> input = new ArrayList<>();
            for (int k = random.nextInt(12); k > 0; k--) {
                int v = random.nextInt(3) == 0 ? random.nextInt() : random.nextInt(12) - 3;
                input.add(v);
                x.input(v);
            }
            int fuel = n == 0 ? 20000 : n == 1 ? random.nextInt(60) : random.nextInt(4000);
            o.run(input, fuel);
            fine = same("run(" + fuel + ")", x.run(fuel), o.outcome, name);
            outcomes[o.outcome]++;
            fine &= same("steps()", x.steps(), o.steps, name);
            fine &= same("place()", x.place(), o.place, name);
            fine &= same("thrown()", x.thrown(), o.thrown, name);
            fine &= same("written()", x.written(), o.output.size(), name);
            for (int k = -1; k < 260; k++) {
                fine &= same("out(" + k + ")", x.out(k), k >= 0 && k < 256 && k < o.output.size() ? o.output.get(k) : 0, name);
            }
            fine &= same("strays()", x.strays(), 0, name);
        }
        return fine;
    }
}
