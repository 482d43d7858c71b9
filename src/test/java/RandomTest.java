import java.util.ArrayList;
import java.util.List;
import java.util.Random;
import java.util.Set;

/** Holds SafeCode against the Oracle on programs made by chance: faults, all that is proved, and runs. */
final class RandomTest {
    private static int wrong;
    private static int right;
    private static int loaded;
    private static Oracle last;
    private static final int[] faults = new int[5];
    private static final int[] outcomes = new int[5];

    public static void main(String[] args) {
        int many = args.length > 0 ? Integer.parseInt(args[0]) : 1000;
        int from = args.length > 1 ? Integer.parseInt(args[1]) : 1;
        for (int seed = from; seed < from + many && wrong < 10; seed++) {
            Texts texts = new Texts(seed);
            String text = texts.program();
            SafeCode x = new SafeCode();
            last = null;
            hold(x, text, seed);
            for (int k = 0; k < 3; k++) {
                hold(x, texts.spoil(text), seed);
            }
            for (int k = 0; k < 10; k++) {
                hold(x, texts.scribble(), seed);
            }
        }
        System.out.println(right + " answers are as due, " + wrong + " are not; " + loaded + " programs loaded, faults "
            + java.util.Arrays.toString(faults) + ", outcomes " + java.util.Arrays.toString(outcomes));
        if (wrong != 0 || loaded == 0) {
            System.exit(1);
        }
    }

    private static boolean same(String what, long got, long want, int seed) {
        if (got == want) {
            right++;
            return true;
        }
        wrong++;
        System.out.println("seed " + seed + ": " + what + " answered " + got + ", due is " + want);
        return false;
    }

    private static void hold(SafeCode x, String text, int seed) {
        if (text.length() > 16000) {
            return;
        }
        Oracle o = new Oracle(text);
        Checks.text(x, text);
        boolean fine = same("load()", x.load(), o.fault, seed) && same("faultAt()", x.faultAt(), o.faultAt, seed);
        faults[o.fault]++;
        if (fine && o.fault == 0) {
            loaded++;
            last = o;
            fine = proofs(x, o, seed) && runs(x, o, seed);
        } else if (fine) {
            fine = keeps(x, seed);
        }
        if (!fine) {
            System.out.println(text);
        }
    }

    /** A fault leaves the program that was there, and what is proved of it. */
    private static boolean keeps(SafeCode x, int seed) {
        boolean fine = same("size(0)", x.size(0), last == null ? -1 : last.code.size(), seed);
        fine &= same("ends()", x.ends(), last == null ? 0 : bits(last.main.throwing), seed);
        for (int i = 0; last != null && i < last.code.size(); i++) {
            fine &= same("errors(" + i + ")", x.errors(i), last.code.get(i).state == null ? 0 : last.code.get(i).errors, seed);
        }
        return fine;
    }

    private static long bits(Set<Integer> set) {
        long all = 0;
        for (int k : set) {
            all |= 1L << k;
        }
        return all;
    }

    private static boolean proofs(SafeCode x, Oracle o, int seed) {
        boolean fine = same("size(0)", x.size(0), o.code.size(), seed) & same("size(1)", x.size(1), o.siteTypes.size(), seed)
            & same("size(2)", x.size(2), o.bodies.size(), seed) & same("size(3)", x.size(3), o.thresholds.size(), seed)
            & same("size(4)", x.size(4), o.classes.size() - 8, seed) & same("ends()", x.ends(), bits(o.main.throwing), seed);
        for (int i = 0; i < o.code.size() && fine; i++) {
            Oracle.Ins ins = o.code.get(i);
            boolean reached = ins.state != null;
            fine &= same("errors(" + i + ")", x.errors(i), reached ? ins.errors : 0, seed);
            fine &= same("escapes(" + i + ")", x.escapes(i), bits(ins.escaping), seed);
            for (int s = 0; s < 20; s++) {
                Oracle.Slot slot = new Oracle.Slot(null);
                if (reached && s < 12 && s < ins.state.locals.length) {
                    slot = ins.state.locals[s];
                } else if (reached && s >= 12 && s - 12 < ins.state.stack.size()) {
                    slot = ins.state.stack.get(s - 12);
                }
                fine &= slot(x, i, s, slot, seed);
            }
        }
        for (int s = -1; s < 55; s++) {
            Oracle.Value v = o.lengthsOf(s);
            fine &= same("lengths(" + s + ", 0)", x.lengths(s, 0), v == null ? -1 : v.low(), seed);
            fine &= same("lengths(" + s + ", 1)", x.lengths(s, 1), v == null ? -1 : v.high(), seed);
        }
        return fine;
    }

    private static boolean slot(SafeCode x, int i, int s, Oracle.Slot slot, int seed) {
        String at = "(" + i + ", " + s + ")";
        Oracle.Value v = slot.value;
        boolean number = v != null && v.number();
        boolean fine = same("kind" + at, x.kind(i, s), v == null ? 0 : number ? 1 : 2, seed);
        fine &= same("low" + at, x.low(i, s), number ? v.low() : 0, seed);
        fine &= same("high" + at, x.high(i, s), number ? v.high() : 0, seed);
        fine &= same("sites" + at, x.sites(i, s), v == null || number ? 0 : bits(v.sites()), seed);
        fine &= same("fact 0" + at, x.fact(i, s, 0), slot.copy, seed);
        fine &= same("fact 1" + at, x.fact(i, s, 1), bits(slot.less), seed);
        fine &= same("fact 2" + at, x.fact(i, s, 2), bits(slot.under), seed);
        fine &= same("fact 3" + at, x.fact(i, s, 3), bits(slot.length), seed);
        fine &= same("fact 4" + at, x.fact(i, s, 4), bits(slot.sized), seed);
        return fine;
    }

    private static boolean runs(SafeCode x, Oracle o, int seed) {
        Random random = new Random(seed);
        boolean fine = true;
        for (int n = 0; n < 4 && fine; n++) {
            List<Integer> input = new ArrayList<>();
            for (int k = random.nextInt(12); k > 0; k--) {
                int v = random.nextInt(3) == 0 ? random.nextInt() : random.nextInt(12) - 3;
                input.add(v);
                x.input(v);
            }
            int fuel = n == 0 ? 20000 : n == 1 ? random.nextInt(60) : random.nextInt(4000);
            o.run(input, fuel);
            fine = same("run(" + fuel + ")", x.run(fuel), o.outcome, seed);
            outcomes[o.outcome]++;
            fine &= same("steps()", x.steps(), o.steps, seed);
            fine &= same("place()", x.place(), o.place, seed);
            fine &= same("thrown()", x.thrown(), o.thrown, seed);
            fine &= same("written()", x.written(), o.output.size(), seed);
            for (int k = -1; k < 260; k++) {
                fine &= same("out(" + k + ")", x.out(k), k >= 0 && k < 256 && k < o.output.size() ? o.output.get(k) : 0, seed);
            }
            fine &= same("strays()", x.strays(), 0, seed);
        }
        return fine;
    }
}
