import java.util.ArrayList;
import java.util.List;
import java.util.Random;

/** Makes texts of programs by chance: most are right ones, and changing a token or two makes them wrong. */
final class Texts {
    private final Random random;
    private final List<String> classes = new ArrayList<>();
    private final List<Integer> ups = new ArrayList<>();
    private final List<String[]> fields = new ArrayList<>();
    private final List<Sign> signs = new ArrayList<>();
    private StringBuilder out;
    private Sign body;
    private List<String> locals;
    private int labels;
    private int budget;
    private final StringBuilder catches = new StringBuilder();
    private String[] numbers;

    private static final class Sign {
        int owner;
        String name;
        boolean method;
        List<String> types;
        String result;
    }

    Texts(long seed) {
        random = new Random(seed);
    }

    private int below(int n) {
        return random.nextInt(n);
    }

    private boolean chance(int percent) {
        return below(100) < percent;
    }

    private <T> T any(List<T> list) {
        return list.get(below(list.size()));
    }

    String program() {
        classes.clear();
        ups.clear();
        fields.clear();
        signs.clear();
        out = new StringBuilder();
        String[] known = {"Object", "Error", "NullError", "IndexError", "SizeError", "DivideError", "CastError", "StoreError"};
        for (int k = 0; k < known.length; k++) {
            classes.add(known[k]);
            ups.add(k == 0 ? -1 : k == 1 ? 0 : 1);
        }
        numbers = new String[] {"0", "1", "-1", "2", "3", "7", "10", "31", "64", "100", "-5", "2147483647", "-2147483648",
            "2147483646", "65536", String.valueOf(random.nextInt()), String.valueOf(below(50))};
        int many = 1 + below(5);
        for (int k = 0; k < many; k++) {
            classes.add("C" + k);
            int up = chance(20) ? 1 + below(7) : chance(40) || k == 0 ? 0 : 8 + below(k);
            ups.add(up);
        }
        classes.add("Main");
        ups.add(0);
        declare();
        for (int c = 8; c < classes.size(); c++) {
            out.append("class ").append(classes.get(c)).append(" of ").append(classes.get(ups.get(c))).append(" {\n");
            for (String[] f : fields) {
                if (f[0].equals(classes.get(c))) {
                    out.append(" field ").append(f[1]).append(' ').append(f[2]).append('\n');
                }
            }
            for (Sign s : signs) {
                if (s.owner == c) {
                    writeBody(s);
                }
            }
            out.append("}\n");
        }
        return out.toString();
    }

    private boolean isBelow(String s, String t) {
        if (s.equals(t)) {
            return true;
        }
        if (s.equals("int") || t.equals("int")) {
            return false;
        }
        if (t.equals("Object")) {
            return true;
        }
        boolean a = s.endsWith("[]");
        if (a != t.endsWith("[]") || s.equals("int[]") || t.equals("int[]")) {
            return false;
        }
        String p = s.replace("[]", "");
        String q = t.replace("[]", "");
        for (int c = classes.indexOf(p); c >= 0; c = ups.get(c)) {
            if (classes.get(c).equals(q)) {
                return true;
            }
        }
        return false;
    }

    private String anyClass() {
        return chance(15) ? "Object" : chance(12) ? "Error" : classes.get(8 + below(classes.size() - 8));
    }

    private String anyType() {
        int k = below(10);
        return k < 4 ? "int" : k < 6 ? "int[]" : k < 9 ? anyClass() : anyClass() + "[]";
    }

    private void declare() {
        for (int k = below(6); k > 0; k--) {
            fields.add(new String[] {classes.get(8 + below(classes.size() - 8)), "f" + k, anyType()});
        }
        for (int k = below(5); k > 0; k--) {
            Sign s = new Sign();
            s.owner = 8 + below(classes.size() - 8);
            s.name = "b" + k;
            s.method = chance(60);
            s.types = new ArrayList<>();
            for (int n = below(3); n > 0; n--) {
                s.types.add(anyType());
            }
            s.result = chance(25) ? "none" : anyType();
            signs.add(s);
            if (s.method) {
                for (int c = s.owner + 1; c < classes.size(); c++) {
                    if (isBelow(classes.get(c), classes.get(s.owner)) && chance(60)) {
                        Sign t = new Sign();
                        t.owner = c;
                        t.name = s.name;
                        t.method = true;
                        t.types = s.types;
                        t.result = s.result;
                        signs.add(t);
                    }
                }
            }
        }
        Sign m = new Sign();
        m.owner = classes.size() - 1;
        m.name = "main";
        m.types = new ArrayList<>();
        m.result = "none";
        signs.add(m);
    }

    private Texts emit(Object... parts) {
        for (Object p : parts) {
            out.append(p).append(' ');
        }
        return this;
    }

    private void writeBody(Sign s) {
        body = s;
        locals = new ArrayList<>();
        if (s.method) {
            locals.add(classes.get(s.owner));
        }
        locals.addAll(s.types);
        int given = locals.size();
        int extra = Math.min(12 - given, 2 + below(5));
        emit(s.method ? "method" : "static", s.name, "(");
        for (String t : s.types) {
            emit(t);
        }
        emit(")", s.result, given + extra + (given + extra < 12 ? below(2) : 0), "{");
        labels = 0;
        budget = 8 + below(30);
        catches.setLength(0);
        for (int k = 0; k < extra; k++) {
            String type = k == 0 ? "int" : anyType();
            fresh(type);
            emit("store", given + k);
            locals.add(type);
        }
        if (s.name.equals("main")) {
            callAll();
        }
        lines(3);
        if (s.result.equals("none")) {
            emit("back");
        } else {
            value(s.result, 2);
            emit("give");
        }
        out.append(catches);
        out.append("}\n");
    }

    /** Calls the other bodies, and goes on whatever they throw. */
    private void callAll() {
        String at = label();
        for (Sign s : signs) {
            if (!s.name.equals("main") && chance(80)) {
                String from = label();
                String to = label();
                emit(from, ":");
                invoke(s, 1);
                emit(s.result.equals("none") ? "" : "pop", to, ":");
                if (chance(70)) {
                    catches.append("catch ").append(from).append(' ').append(to).append(' ').append(at).append(" Error\n");
                }
            }
        }
        String end = label();
        emit("goto", end, at, ":", "pop", end, ":");
    }

    private void index(int depth) {
        if (chance(55)) {
            emit("push", any(List.of("0", "0", "1", "2")));
        } else if (chance(40)) {
            emit("read");
        } else {
            value("int", depth);
        }
    }

    /** A value that is surely there. */
    private void fresh(String type) {
        if (type.equals("int")) {
            emit(chance(40) ? "read" : "push " + number());
        } else if (type.endsWith("[]")) {
            emit(chance(30) ? "read push 15 and" : "push " + any(List.of("1", "2", "3", "10", "5")));
            String element = type.substring(0, type.length() - 2);
            emit("array", element.equals("int") ? element : lower(element));
        } else {
            emit("new", lower(type));
        }
    }

    private void lines(int depth) {
        for (int k = 1 + below(5); k > 0 && budget > 0; k--) {
            budget--;
            line(depth);
        }
    }

    private String label() {
        labels++;
        return "l" + labels;
    }

    private List<Integer> ofType(String wanted) {
        List<Integer> all = new ArrayList<>();
        for (int k = 0; k < locals.size(); k++) {
            if (isBelow(locals.get(k), wanted)) {
                all.add(k);
            }
        }
        return all;
    }

    private List<Integer> arrays() {
        List<Integer> all = new ArrayList<>();
        for (int k = 0; k < locals.size(); k++) {
            if (locals.get(k).endsWith("[]")) {
                all.add(k);
            }
        }
        return all;
    }

    private void line(int depth) {
        int k = below(locals.size());
        String type = locals.get(k);
        switch (below(depth > 0 ? 20 : 10)) {
            case 0, 1 -> {
                value(type, 2);
                emit("store", k);
            }
            case 2 -> {
                if (type.equals("int")) {
                    emit("inc", k, chance(60) ? "1" : number());
                }
            }
            case 3 -> {
                value("int", 3);
                emit("write");
            }
            case 4 -> putField();
            case 5, 6 -> putElement();
            case 7 -> calling();
            case 8 -> noise(k);
            case 9 -> {
                if (chance(40)) {
                    String l = label();
                    test(l);
                    value(chance(50) ? "Error" : "NullError", 1);
                    emit("throw", l, ":");
                }
            }
            case 10, 11 -> branch(depth);
            case 12, 13 -> loop(depth);
            case 14, 15 -> filling(depth);
            case 16, 17, 18 -> attempt(depth);
            default -> {
                String out1 = label();
                test(out1);
                lines(depth - 1);
                emit(out1, ":");
            }
        }
    }

    private String number() {
        return numbers[below(numbers.length)];
    }

    private void noise(int k) {
        switch (below(8)) {
            case 6, 7 -> {
                emit("load", k);
                if (locals.get(k).equals("int") && chance(60)) {
                    emit("inc", k, chance(60) ? "1" : number(), chance(50) ? "neg write" : "write");
                } else {
                    fresh(locals.get(k));
                    emit("store", k, "pop");
                }
            }
            case 0 -> emit("load", k, "dup", "pop", "pop");
            case 1 -> emit("load", k, "load", below(locals.size()), "swap", "pop", "pop");
            case 2 -> emit("load", k, "store", k);
            case 3 -> {
                emit("load", k);
                value("int", 1);
                emit("swap", "store", k, "pop");
            }
            case 4 -> {
                String l = label();
                emit("goto", l, l, ":");
            }
            default -> {
                List<Integer> a = ofType("int");
                if (a.size() > 1) {
                    emit("load", any(a), "store", any(a));
                }
            }
        }
    }

    private void branch(int depth) {
        String other = label();
        String end = label();
        test(other);
        lines(depth - 1);
        emit("goto", end, other, ":");
        lines(depth - 1);
        emit(end, ":");
    }

    /** Jumps to the label if something holds. */
    private void test(String to) {
        switch (below(8)) {
            case 0 -> {
                value("Object", 2);
                emit(chance(50) ? "isnull" : "notnull", to);
            }
            case 1 -> {
                value("Object", 1);
                value("Object", 1);
                emit(chance(50) ? "same" : "other", to);
            }
            case 2 -> {
                List<Integer> refs = ofType("Object");
                if (refs.isEmpty()) {
                    emit("read", "push", "0", "eq", to);
                } else {
                    emit("load", any(refs), chance(50) ? "isnull" : "notnull", to);
                }
            }
            default -> {
                value("int", 2);
                value("int", 2);
                emit(any(List.of("eq", "ne", "lt", "le", "gt", "ge")), to);
            }
        }
    }

    private void loop(int depth) {
        String again = label();
        String end = label();
        List<Integer> ints = ofType("int");
        int k = ints.isEmpty() ? -1 : any(ints);
        if (k >= 0 && chance(70)) {
            emit("push", chance(70) ? "0" : number(), "store", k);
        }
        emit(again, ":");
        if (k >= 0 && chance(70)) {
            emit("load", k);
            value("int", 1);
            emit(any(List.of("ge", "gt", "eq")), end);
        } else {
            test(end);
        }
        lines(depth - 1);
        if (k >= 0 && chance(80)) {
            emit("inc", k, "1");
        }
        emit("goto", again, end, ":");
    }

    /** A loop over an array, as one writes it. */
    private void filling(int depth) {
        List<Integer> all = arrays();
        List<Integer> ints = ofType("int");
        if (all.isEmpty() || ints.isEmpty()) {
            return;
        }
        int a = any(all);
        int k = any(ints);
        int n = any(ints);
        String element = locals.get(a).substring(0, locals.get(a).length() - 2);
        if (chance(40)) {
            value("int", 1);
            emit("store", n, "load", n, "array", element, "store", a);
        }
        String again = label();
        String end = label();
        emit("push", chance(80) ? "0" : number(), "store", k, again, ":", "load", k);
        if (chance(60)) {
            emit("load", a, "length");
        } else {
            emit("load", n);
        }
        emit(chance(85) ? "ge" : "gt", end);
        if (chance(50)) {
            emit("load", a, "load", k);
            value(element, 1);
            emit("astore");
        } else {
            emit("load", a, "load", k, "aload", "pop");
        }
        if (chance(30)) {
            lines(depth - 1);
        }
        emit("inc", k, "1", "goto", again, end, ":");
    }

    private void attempt(int depth) {
        String from = label();
        String to = label();
        String at = label();
        String end = label();
        emit(from, ":");
        value("int", 2);
        emit("write");
        lines(depth - 1);
        emit("goto", end, to, ":", at, ":");
        switch (below(4)) {
            case 0 -> emit("pop");
            case 1 -> emit("is", "DivideError", "write");
            case 2 -> emit("throw");
            default -> {
                String next = label();
                emit("dup", "is", "NullError", "push", "0", "eq", next, "pop", "push", "7", "write", "goto", end, next, ":", "pop");
            }
        }
        if (chance(40)) {
            lines(depth - 1);
        }
        emit(end, ":");
        for (int k = 1 + below(2); k > 0; k--) {
            String cls = chance(40) ? "Error" : classes.get(2 + below(6));
            catches.append("catch ").append(from).append(' ').append(to).append(' ').append(at).append(' ').append(cls).append('\n');
        }
    }

    private void putField() {
        if (fields.isEmpty()) {
            return;
        }
        String[] f = any(fields);
        value(f[0], 1);
        value(f[2], 2);
        emit("put", f[0] + "." + f[1]);
    }

    private void putElement() {
        List<Integer> all = arrays();
        if (all.isEmpty()) {
            return;
        }
        int a = any(all);
        String element = locals.get(a).substring(0, locals.get(a).length() - 2);
        emit("load", a);
        index(1);
        value(element, 2);
        emit("astore");
    }

    private void calling() {
        Sign s = any(signs);
        if (signs.indexOf(s) >= signs.indexOf(body) && chance(93)) {
            return;
        }
        invoke(s, 1);
        if (!s.result.equals("none")) {
            emit("pop");
        }
    }

    private void invoke(Sign s, int depth) {
        if (s.method) {
            value(classes.get(s.owner), depth - 1);
        }
        for (String t : s.types) {
            value(t, depth - 1);
        }
        emit(s.method ? "send" : "call", classes.get(s.owner) + "." + s.name);
    }

    /** Lines that leave a value of the type. */
    private void value(String type, int depth) {
        List<Integer> there = ofType(type);
        if (!there.isEmpty() && body != null && chance(depth <= 0 ? 75 : 45)) {
            emit("load", any(there));
            return;
        }
        if (depth > 0 && chance(45)) {
            for (int k = 0; k < 4; k++) {
                if (fetched(type, depth)) {
                    return;
                }
            }
        }
        if (type.equals("int")) {
            intValue(depth);
        } else {
            refValue(type, depth);
        }
    }

    private boolean fetched(String type, int depth) {
        switch (below(3)) {
            case 0 -> {
                for (String[] f : fields) {
                    if (isBelow(f[2], type) && chance(50)) {
                        value(f[0], depth - 1);
                        emit("get", f[0] + "." + f[1]);
                        return true;
                    }
                }
            }
            case 1 -> {
                for (int k : arrays()) {
                    if (isBelow(locals.get(k).substring(0, locals.get(k).length() - 2), type) && chance(50)) {
                        emit("load", k);
                        index(depth - 1);
                        emit("aload");
                        return true;
                    }
                }
            }
            default -> {
                for (Sign s : signs) {
                    boolean before = signs.indexOf(s) < signs.indexOf(body);
                    if (isBelow(s.result, type) && !s.result.equals("none") && chance(before ? 40 : 2)) {
                        invoke(s, depth);
                        return true;
                    }
                }
            }
        }
        return false;
    }

    private void intValue(int depth) {
        int k = depth > 0 ? below(8) : below(2);
        switch (k) {
            case 0 -> emit("push", number());
            case 1 -> {
                if (chance(50)) {
                    emit("read");
                } else {
                    emit("push", number());
                }
            }
            case 2 -> {
                value("int", depth - 1);
                emit("neg");
            }
            case 3 -> {
                value("Object", depth - 1);
                emit("is", anyCastType());
            }
            case 4 -> {
                List<Integer> all = arrays();
                if (all.isEmpty()) {
                    emit("read");
                } else {
                    emit("load", any(all), "length");
                }
            }
            default -> {
                value("int", depth - 1);
                value("int", depth - 1);
                emit(any(List.of("add", "sub", "mul", "div", "rem", "and", "or", "xor", "shl", "shr")));
            }
        }
    }

    private String anyCastType() {
        String t = anyType();
        return t.equals("int") ? "Object" : t;
    }

    private void refValue(String type, int depth) {
        if (chance(5)) {
            emit("null");
        } else if (depth > 0 && chance(15)) {
            value(chance(15) ? "Object" : over(type), depth - 1);
            emit("cast", type);
        } else if (type.endsWith("[]") && chance(40)) {
            String element = type.substring(0, type.length() - 2);
            value("int", depth - 1);
            emit("array", element.equals("int") ? element : lower(element));
        } else if (type.equals("Object") && chance(20)) {
            emit("push", "3", "array", chance(50) ? "int" : anyClass());
        } else {
            fresh(type);
        }
    }

    /** The type, or one right above it. */
    private String over(String type) {
        String plain = type.replace("[]", "");
        int up = plain.equals("int") ? -1 : ups.get(classes.indexOf(plain));
        return up < 0 || chance(40) ? type : type.replace(plain, classes.get(up));
    }

    /** The class, or one below it. */
    private String lower(String type) {
        List<String> all = new ArrayList<>();
        for (String c : classes) {
            if (isBelow(c, type)) {
                all.add(c);
            }
        }
        return any(all);
    }

    private static String shape(String w) {
        String plain = "push inc load store new cast is get put send call";
        String none = "dup pop swap add mul div neg null length aload astore throw give back read write";
        String jump = "goto eq lt ge isnull notnull same other";
        for (String set : new String[] {plain, none, jump}) {
            if ((" " + set + " ").contains(" " + w + " ")) {
                return set;
            }
        }
        return w.replaceAll("[a-z0-9_]+", "a").replaceAll("[A-Z]+", "A");
    }

    /** A token that the grammar takes in the same places. */
    private String alike(List<String> tokens, String[] pool, String old) {
        List<String> all = new ArrayList<>();
        for (String w : tokens) {
            if (shape(w).equals(shape(old)) && !all.contains(w)) {
                all.add(w);
            }
        }
        for (String w : pool) {
            if (shape(w).equals(shape(old)) && !all.contains(w)) {
                all.add(w);
            }
        }
        return any(all);
    }

    /** A text with a few tokens changed. */
    String spoil(String text) {
        List<String> tokens = new ArrayList<>(List.of(text.trim().split("\\s+")));
        String[] pool = {"(", ")", "{", "}", ":", "class", "of", "field", "static", "method", "int", "none", "int[]", "Object", "Error",
            "Main", "main", "l1", "l2", "l3", "push", "load", "store", "goto", "catch", "0", "1", "12", "13", "-1", "2147483648",
            "-2147483649", "99999999999", "Nope", "Nope[]", "C0", "C0[]", "C0.f1", "C0.b1", "Main.main", "nope", "x$", "X.", ".x",
            "a234567890123456789012345", "A23456789012345678901234", "dup", "pop", "swap", "add", "null", "back", "give", "throw",
            "read", "write", "aload", "astore", "length", "send", "call", "get", "put", "new", "array", "cast", "is", "inc", "neg",
            "isnull", "same", "lt", "-", "-0", "007", "NullError", "int[][]", "C0[][]"};
        for (int n = 1 + below(2); n > 0 && !tokens.isEmpty(); n--) {
            int at = below(tokens.size());
            switch (below(14)) {
                case 0 -> tokens.remove(at);
                case 1 -> tokens.add(at, tokens.get(at));
                case 2 -> tokens.add(at, any(tokens));
                case 3 -> tokens.set(at, any(tokens));
                case 4 -> tokens.set(at, pool[below(pool.length)]);
                case 5 -> tokens.add(at, pool[below(pool.length)]);
                default -> tokens.set(at, alike(tokens, pool, tokens.get(at)));
            }
        }
        String spoilt = String.join(" ", tokens);
        if (chance(3)) {
            spoilt = spoilt.substring(0, below(spoilt.length() + 1));
        }
        if (chance(3)) {
            int p = below(spoilt.length() + 1);
            char c = new char[] {0, 127, 200, ';', '\n', '\t', 11}[below(7)];
            spoilt = spoilt.substring(0, p) + c + spoilt.substring(p);
        }
        return spoilt;
    }

    private String one(String words) {
        String[] all = words.split(" ");
        return all[below(all.length)];
    }

    private String smallType() {
        return one("int int A B A[] B[] int[] Object Error E Object[]");
    }

    /** A text of the right form with few names: mostly its types, sometimes its names are wrong somewhere. */
    String scribble() {
        out = new StringBuilder();
        emit("class", "A", "of", chance(95) ? "Object" : "Error", "{", "field", "f", "int", "field", "g", smallType());
        if (chance(5)) {
            emit("field", one("f g h k"), smallType());
        }
        scribbleBody("method", "m", "( int A )", "int", "4");
        scribbleBody("static", "n", "( int A )", "int", "4");
        emit("}", "class", "B", "of", "A", "{");
        if (chance(20)) {
            scribbleBody(chance(90) ? "method" : "static", chance(90) ? "m" : one("n o"), "( int A )", chance(95) ? "int" : "none", "4");
        }
        emit("}", "class", "E", "of", one("Error Error NullError"), "{", "}", "class", "Main", "of", one("Object A B"), "{");
        scribbleBody("static", chance(97) ? "main" : "m", "( )", "none", chance(97) ? "4" : one("3 13 -1"));
        emit("}");
        return out.toString();
    }

    private void scribbleBody(String kind, String name, String types, String result, String count) {
        emit(kind, name, types, result, count, "{");
        for (int k = types.equals("( )") ? 0 : 3; k < 4; k++) {
            emit(one("push_1 push_2 null new_A new_B new_E read").replace('_', ' '), "store", k);
        }
        int declared = 0;
        for (int n = 1 + below(9); n > 0; n--) {
            if (chance(15) && declared < 3) {
                emit("abc".substring(declared, declared + 1), ":");
                declared++;
            }
            scribbleLine();
        }
        for (; declared < 3; declared++) {
            emit("abc".substring(declared, declared + 1), ":");
            if (chance(50)) {
                scribbleLine();
            }
        }
        emit(chance(97) ? result.equals("int") ? "push 1 give" : "back" : one("back throw give dup"));
        if (chance(15)) {
            emit("catch", one("a b"), one("b c"), one("a b c"), chance(90) ? one("Error E NullError") : "Object");
        }
        emit("}");
    }

    private String smallNumber() {
        return one("0 1 2 3 -1 5");
    }

    private String smallLocal() {
        return chance(99) ? one("0 1 2 3") : one("4 -1");
    }

    private void scribbleLine() {
        String jump = chance(99) ? one("a b c") : "d";
        switch (below(15)) {
            case 0 -> emit("push", smallNumber(), one("write pop neg dup"));
            case 1 -> emit("load", smallLocal(), one("pop write throw"));
            case 2 -> emit("load", smallLocal(), "store", smallLocal());
            case 3 -> emit("inc", smallLocal(), smallNumber());
            case 4 -> emit(one("dup pop swap neg length throw write read null"));
            case 5 -> emit("load", smallLocal(), "load", smallLocal(), one("add sub mul div rem and or xor shl shr"), one("write pop dup"));
            case 6 -> emit("load", smallLocal(), "push", smallNumber(), one("eq ne lt le gt ge"), jump);
            case 7 -> emit("load", smallLocal(), one("isnull notnull"), jump);
            case 8 -> emit("load", smallLocal(), "get", chance(98) ? one("A.f A.g B.f B.g") : one("E.f Main.q Q.f"), one("pop write length"));
            case 9 -> emit("load", smallLocal(), "load", smallLocal(), "put", one("A.f A.g B.f B.g"));
            case 10 -> emit("load", smallLocal(), "load", smallLocal(), chance(97) ? "call A.n" : one("call A.m").replace('_', ' '), one("pop write"));
            case 11 -> emit("load", smallLocal(), "load", smallLocal(), "load", smallLocal(), "send", one("A.m B.m"), one("pop write"));
            case 12 -> emit("load", smallLocal(), one("cast is"), one("A B E A[] int[] Object[] Object"), "store", smallLocal());
            case 13 -> emit("load", smallLocal(), "load", smallLocal(), one("aload same_a other_b add").replace('_', ' '));
            default -> emit("push", smallNumber(), "array", one("int A B Object"), "store", smallLocal());
        }
    }
}
