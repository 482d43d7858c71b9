import java.util.ArrayList;
import java.util.Arrays;
import java.util.HashMap;
import java.util.HashSet;
import java.util.LinkedHashMap;
import java.util.List;
import java.util.Map;
import java.util.Set;
import java.util.TreeSet;

/**
 * The document once more, written in the slowest and plainest way, with sets and texts: everything is looked at again
 * and again until nothing changes. RandomTest holds SafeCode against it.
 */
final class Oracle {
    static final int NULL = 62;
    private static final long MIN = Integer.MIN_VALUE;
    private static final long MAX = Integer.MAX_VALUE;
    private static final List<String> ERRORS =
        List.of("NullError", "IndexError", "SizeError", "DivideError", "CastError", "StoreError");
    private static final Map<String, String> OPERANDS = new HashMap<>();

    static {
        String table = "push=N null= load=K store=K inc=KN dup= pop= swap= add= sub= mul= div= rem= and= or= xor= shl= shr= "
            + "neg= goto=L eq=L ne=L lt=L le=L gt=L ge=L isnull=L notnull=L same=L other=L new=C array=E length= aload= "
            + "astore= get=F put=F cast=T is=T call=F send=F throw= give= back= read= write=";
        for (String entry : table.split(" ")) {
            OPERANDS.put(entry.substring(0, entry.indexOf('=')), entry.substring(entry.indexOf('=') + 1));
        }
    }

    static final class Cls {
        String name;
        Cls up;
        final List<Field> fields = new ArrayList<>();
        final List<Body> bodies = new ArrayList<>();

        boolean isBelow(Cls other) {
            return this == other || up != null && up.isBelow(other);
        }

        Field field(String wanted) {
            for (Field f : fields) {
                if (f.name.equals(wanted)) {
                    return f;
                }
            }
            return up == null ? null : up.field(wanted);
        }

        Body body(String wanted) {
            for (Body b : bodies) {
                if (b.name.equals(wanted)) {
                    return b;
                }
            }
            return up == null ? null : up.body(wanted);
        }

        int cells() {
            return fields.size() + (up == null ? 0 : up.cells());
        }
    }

    static final class Field {
        String name;
        String type;
        Cls owner;
    }

    static final class Catch {
        int from;
        int to;
        int at;
        Cls cls;
    }

    static final class Body {
        Cls owner;
        String name;
        boolean method;
        List<String> types = new ArrayList<>();
        String result;
        int locals;
        int token;
        int start;
        int end;
        final List<Catch> catches = new ArrayList<>();
        // what is proved
        boolean ends;
        Value given;
        final Set<Integer> throwing = new TreeSet<>();

        List<String> parameters() {
            List<String> all = new ArrayList<>(types);
            if (method) {
                all.add(0, owner.name);
            }
            return all;
        }
    }

    static final class Ins {
        String op;
        int token;
        Body body;
        int n;
        int k;
        int target;
        String type;
        Cls cls;
        Field field;
        Body called;
        int site = -1;
        // types
        final Set<Integer> heights = new TreeSet<>();
        String[] held;
        // what is proved
        State state;
        int errors;
        Set<Integer> escaping = new TreeSet<>();
    }

    // ---------------------------------------------------------------- text, form and names

    int fault;
    int faultAt = -1;
    private final List<String> tokens = new ArrayList<>();
    final Map<String, Cls> classes = new LinkedHashMap<>();
    final List<Field> fields = new ArrayList<>();
    final List<Body> bodies = new ArrayList<>();
    final List<Ins> code = new ArrayList<>();
    final List<String> siteTypes = new ArrayList<>();
    final TreeSet<Integer> thresholds = new TreeSet<>();
    Body main;

    private static final class Fault extends RuntimeException {
        private static final long serialVersionUID = 1L;
        final int kind;
        final int token;

        Fault(int kind, int token) {
            super(null, null, false, false);
            this.kind = kind;
            this.token = token;
        }
    }

    Oracle(String text) {
        try {
            cut(text);
            form();
            names();
            for (Body b : bodies) {
                heights(b);
                types(b);
            }
            prove();
        } catch (Fault f) {
            fault = f.kind;
            faultAt = f.token;
        }
    }

    private void cut(String text) {
        StringBuilder word = new StringBuilder();
        int p = 0;
        while (p <= text.length()) {
            char c = p < text.length() ? text.charAt(p) : '\n';
            boolean bad = c > 126 || c < 32 && c != 9 && c != 10 && c != 13;
            if ((bad || c <= 32 || "(){}:;".indexOf(c) >= 0) && word.length() > 0) {
                tokens.add(word.toString());
                word.setLength(0);
            }
            if (bad) {
                throw new Fault(1, tokens.size());
            }
            if (c == ';') {
                while (p < text.length() && text.charAt(p) != '\n') {
                    char d = text.charAt(p);
                    if (d > 126 || d < 32 && d != 9 && d != 10 && d != 13) {
                        throw new Fault(1, tokens.size());
                    }
                    p++;
                }
                continue;
            }
            if ("(){}:".indexOf(c) >= 0) {
                tokens.add(String.valueOf(c));
            } else if (c > 32) {
                word.append(c);
            }
            p++;
        }
    }

    private static boolean isName(String w) {
        return w.matches("[a-z][a-zA-Z0-9_]{0,23}");
    }

    private static boolean isClassName(String w) {
        return w.matches("[A-Z][a-zA-Z0-9_]{0,23}");
    }

    private static boolean isNumber(String w) {
        return w.matches("-?[0-9]{1,10}") && Long.parseLong(w) >= MIN && Long.parseLong(w) <= MAX;
    }

    private static boolean isType(String w) {
        return w.equals("int") || w.equals("int[]") || isClassName(w) || w.endsWith("[]") && isClassName(w.substring(0, w.length() - 2));
    }

    private static boolean isReference(String w) {
        int dot = w.indexOf('.');
        return dot > 0 && isClassName(w.substring(0, dot)) && isName(w.substring(dot + 1));
    }

    /** All places in the grammar where one can be behind the token, from one place. */
    private static Set<String> follow(String place, String w) {
        Set<String> next = new HashSet<>();
        switch (place) {
            case "P" -> when(next, w.equals("class"), "P1");
            case "P1" -> when(next, isClassName(w), "P2");
            case "P2" -> when(next, w.equals("of"), "P3");
            case "P3" -> when(next, isClassName(w), "P4");
            case "P4" -> when(next, w.equals("{"), "M");
            case "M" -> {
                when(next, w.equals("}"), "P");
                when(next, w.equals("field"), "F1");
                when(next, w.equals("static") || w.equals("method"), "B1");
            }
            case "F1" -> when(next, isName(w), "F2");
            case "F2" -> when(next, isType(w), "M");
            case "B1" -> when(next, isName(w), "B2");
            case "B2" -> when(next, w.equals("("), "B3");
            case "B3" -> {
                when(next, isType(w), "B3");
                when(next, w.equals(")"), "B4");
            }
            case "B4" -> when(next, isType(w) || w.equals("none"), "B5");
            case "B5" -> when(next, isNumber(w), "B6");
            case "B6" -> when(next, w.equals("{"), "L");
            case "L" -> {
                when(next, w.equals("}"), "M");
                when(next, isName(w), "LABEL");
                when(next, w.equals("catch"), "C1");
                if (OPERANDS.containsKey(w)) {
                    next.add(OPERANDS.get(w).isEmpty() ? "L" : "O" + OPERANDS.get(w));
                }
            }
            case "LABEL" -> when(next, w.equals(":"), "L");
            case "C1" -> when(next, isName(w), "C2");
            case "C2" -> when(next, isName(w), "C3");
            case "C3" -> when(next, isName(w), "C4");
            case "C4" -> when(next, isClassName(w), "L");
            case "ON", "OK" -> when(next, isNumber(w), "L");
            case "OKN" -> when(next, isNumber(w), "ON");
            case "OL" -> when(next, isName(w), "L");
            case "OC" -> when(next, isClassName(w), "L");
            case "OE" -> when(next, isClassName(w) || w.equals("int"), "L");
            case "OT" -> when(next, isType(w) && !w.equals("int"), "L");
            case "OF" -> when(next, isReference(w), "L");
            default -> throw new IllegalStateException(place);
        }
        return next;
    }

    private static void when(Set<String> next, boolean holds, String place) {
        if (holds) {
            next.add(place);
        }
    }

    private void form() {
        Set<String> places = Set.of("P");
        for (int t = 0; t < tokens.size(); t++) {
            Set<String> next = new HashSet<>();
            for (String place : places) {
                next.addAll(follow(place, tokens.get(t)));
            }
            if (next.isEmpty()) {
                throw new Fault(2, t);
            }
            places = next;
        }
        if (!places.contains("P")) {
            throw new Fault(2, tokens.size());
        }
    }

    private String tok(int t) {
        return t < tokens.size() ? tokens.get(t) : "";
    }

    private boolean thereIs(String type) {
        String plain = type.replace("[]", "");
        return plain.equals("int") || plain.equals("none") || classes.containsKey(plain);
    }

    private void known(String name, String up) {
        Cls c = new Cls();
        c.name = name;
        c.up = classes.get(up);
        classes.put(name, c);
    }

    private void names() {
        known("Object", "");
        known("Error", "Object");
        for (String e : ERRORS) {
            known(e, "Error");
        }
        // where each class, member and body stands
        List<int[]> members = new ArrayList<>();
        int depth = 0;
        List<String> order = new ArrayList<>();
        for (int t = 0; t < tokens.size(); t++) {
            String w = tokens.get(t);
            if (w.equals("{")) {
                depth++;
            } else if (w.equals("}")) {
                depth--;
            } else if (depth == 0) {
                order.add(tok(t + 1));
                if (classes.containsKey(tok(t + 1)) || classes.size() == 32) {
                    throw new Fault(3, t + 1);
                }
                if (!classes.containsKey(tok(t + 3))) {
                    throw new Fault(3, t + 3);
                }
                known(tok(t + 1), tok(t + 3));
                t += 3;
            } else if (depth == 1) {
                members.add(new int[] {t, order.size() - 1});
                if (w.equals("field")) {
                    t += 2;
                } else {
                    while (!tok(t + 1).equals("{")) {
                        t++;
                    }
                }
            }
        }
        for (int[] m : members) {
            Cls owner = classes.get(order.get(m[1]));
            if (tok(m[0]).equals("field")) {
                fieldMember(owner, m[0]);
            } else {
                bodyMember(owner, m[0]);
            }
        }
        for (Body b : bodies) {
            lines(b);
        }
        Cls mainClass = classes.get("Main");
        for (Body b : bodies) {
            if (b.owner == mainClass && b.name.equals("main") && !b.method && b.types.isEmpty() && b.result.equals("none")) {
                main = b;
            }
        }
        if (main == null) {
            throw new Fault(3, tokens.size());
        }
    }

    private void fieldMember(Cls owner, int t) {
        if (owner.field(tok(t + 1)) != null || fields.size() == 48) {
            throw new Fault(3, t + 1);
        }
        if (!thereIs(tok(t + 2))) {
            throw new Fault(3, t + 2);
        }
        Field f = new Field();
        f.name = tok(t + 1);
        f.type = tok(t + 2);
        f.owner = owner;
        owner.fields.add(f);
        fields.add(f);
    }

    private void bodyMember(Cls owner, int t) {
        Body b = new Body();
        b.owner = owner;
        b.method = tok(t).equals("method");
        b.name = tok(t + 1);
        int u = t + 3;
        int missing = -1;
        for (; !tok(u).equals(")"); u++) {
            b.types.add(tok(u));
            missing = missing < 0 && !thereIs(tok(u)) ? u : missing;
        }
        u++;
        b.result = tok(u);
        missing = missing < 0 && !thereIs(tok(u)) ? u : missing;
        u++;
        long locals = Long.parseLong(tok(u));
        Body above = owner.body(b.name);
        boolean clash = above != null
            && (above.owner == owner || !above.method || !b.method || !above.types.equals(b.types) || !above.result.equals(b.result));
        if (clash || bodies.size() == 48) {
            throw new Fault(3, t + 1);
        }
        if (missing >= 0) {
            throw new Fault(3, missing);
        }
        if (locals < 0 || locals > 12 || locals < b.parameters().size()) {
            throw new Fault(3, u);
        }
        b.locals = (int) locals;
        b.token = u + 1;
        owner.bodies.add(b);
        bodies.add(b);
    }

    private int width(int t) {
        if (tok(t + 1).equals(":")) {
            return 2;
        }
        return tok(t).equals("catch") ? 5 : 1 + OPERANDS.get(tok(t)).length();
    }

    private static int at(Map<String, Integer> labels, String name, int token) {
        if (!labels.containsKey(name)) {
            throw new Fault(3, token);
        }
        return labels.get(name);
    }

    private int catchCount() {
        int n = 0;
        for (Body b : bodies) {
            n += b.catches.size();
        }
        return n;
    }

    private void lines(Body b) {
        b.start = code.size();
        Map<String, Integer> labels = new HashMap<>();
        int here = code.size();
        for (int t = b.token + 1; !tok(t).equals("}"); t += width(t)) {
            if (tok(t + 1).equals(":")) {
                labels.putIfAbsent(tok(t), here);
            } else if (!tok(t).equals("catch")) {
                here++;
            }
        }
        b.end = here;
        Set<String> before = new HashSet<>();
        int t = b.token + 1;
        for (; !tok(t).equals("}"); t += width(t)) {
            if (tok(t + 1).equals(":")) {
                if (!before.add(tok(t))) {
                    throw new Fault(3, t);
                }
            } else if (tok(t).equals("catch")) {
                catchLine(b, t, labels);
            } else {
                instruction(b, t, labels);
            }
        }
        if (code.size() == b.start || !List.of("goto", "throw", "give", "back").contains(code.get(code.size() - 1).op)) {
            throw new Fault(3, t);
        }
    }

    private void catchLine(Body b, int t, Map<String, Integer> labels) {
        if (catchCount() == 64) {
            throw new Fault(3, t);
        }
        Catch c = new Catch();
        c.from = at(labels, tok(t + 1), t + 1);
        c.to = at(labels, tok(t + 2), t + 2);
        if (c.to <= c.from) {
            throw new Fault(3, t + 2);
        }
        c.at = at(labels, tok(t + 3), t + 3);
        if (c.at == b.end) {
            throw new Fault(3, t + 3);
        }
        c.cls = classes.get(tok(t + 4));
        if (c.cls == null || !c.cls.isBelow(classes.get("Error"))) {
            throw new Fault(3, t + 4);
        }
        b.catches.add(c);
    }

    private void include(long n) {
        for (long v = n - 1; v <= n + 1; v++) {
            if (v >= MIN && v <= MAX) {
                thresholds.add((int) v);
            }
        }
    }

    private void instruction(Body b, int t, Map<String, Integer> labels) {
        Ins i = new Ins();
        i.op = tok(t);
        i.token = t;
        i.body = b;
        boolean makes = i.op.equals("new") || i.op.equals("array");
        if (code.size() == 1024 || makes && siteTypes.size() == 48) {
            throw new Fault(3, t);
        }
        String w = tok(t + 1);
        switch (OPERANDS.get(i.op)) {
            case "N" -> {
                i.n = Integer.parseInt(w);
                include(i.n);
            }
            case "K", "KN" -> {
                int k = Integer.parseInt(w);
                if (k < 0 || k >= b.locals) {
                    throw new Fault(3, t + 1);
                }
                i.k = k;
                if (i.op.equals("inc")) {
                    i.n = Integer.parseInt(tok(t + 2));
                    include(i.n);
                }
            }
            case "L" -> {
                i.target = at(labels, w, t + 1);
                if (i.target == b.end) {
                    throw new Fault(3, t + 1);
                }
            }
            case "C", "E", "T" -> {
                if (!thereIs(w)) {
                    throw new Fault(3, t + 1);
                }
                i.type = w;
            }
            case "F" -> reference(i, w, t + 1);
            default -> { }
        }
        if (makes) {
            i.site = siteTypes.size();
            siteTypes.add(i.op.equals("new") ? i.type : i.type + "[]");
        }
        code.add(i);
    }

    private void reference(Ins i, String w, int token) {
        i.cls = classes.get(w.substring(0, w.indexOf('.')));
        String name = w.substring(w.indexOf('.') + 1);
        if (i.cls == null) {
            throw new Fault(3, token);
        }
        if (i.op.equals("get") || i.op.equals("put")) {
            i.field = i.cls.field(name);
            if (i.field == null) {
                throw new Fault(3, token);
            }
        } else {
            i.called = i.cls.body(name);
            if (i.called == null || i.called.method != i.op.equals("send")) {
                throw new Fault(3, token);
            }
        }
    }

    // ---------------------------------------------------------------- types

    private boolean isRef(String t) {
        return !t.equals("int") && !t.equals("UNSET");
    }

    boolean below(String s, String t) {
        if (s.equals(t) || t.equals("UNSET")) {
            return true;
        }
        if (!isRef(s) || !isRef(t)) {
            return false;
        }
        if (s.equals("null")) {
            return true;
        }
        if (t.equals("null")) {
            return false;
        }
        if (t.equals("Object")) {
            return true;
        }
        if (s.endsWith("[]") && t.endsWith("[]")) {
            String p = s.substring(0, s.length() - 2);
            String q = t.substring(0, t.length() - 2);
            return classes.containsKey(p) && classes.containsKey(q) && classes.get(p).isBelow(classes.get(q));
        }
        return classes.containsKey(s) && classes.containsKey(t) && classes.get(s).isBelow(classes.get(t));
    }

    private final Map<String, String> joins = new HashMap<>();

    private String join(String s, String t) {
        return joins.computeIfAbsent(s + " " + t, key -> {
            List<String> all = new ArrayList<>(List.of("int", "null", "int[]", "UNSET"));
            for (String c : classes.keySet()) {
                all.add(c);
                all.add(c + "[]");
            }
            List<String> over = new ArrayList<>();
            for (String u : all) {
                if (below(s, u) && below(t, u)) {
                    over.add(u);
                }
            }
            for (String u : over) {
                boolean least = true;
                for (String v : over) {
                    least &= below(u, v);
                }
                if (least) {
                    return u;
                }
            }
            throw new IllegalStateException(key);
        });
    }

    private static int kindTakes(String op) {
        return switch (op) {
            case "push", "read", "null", "load", "new", "inc", "goto", "back" -> 0;
            case "store", "pop", "dup", "neg", "isnull", "notnull", "array", "length", "get", "cast", "is", "throw", "give", "write" -> 1;
            case "astore" -> 3;
            default -> 2;
        };
    }

    private static int takes(Ins i) {
        return i.called != null ? i.called.parameters().size() : kindTakes(i.op);
    }

    private static int leaves(Ins i) {
        if (i.called != null) {
            return i.called.result.equals("none") ? 0 : 1;
        }
        return switch (i.op) {
            case "store", "pop", "inc", "goto", "eq", "ne", "lt", "le", "gt", "ge", "isnull", "notnull", "same", "other",
                "astore", "put", "throw", "give", "back", "write" -> 0;
            case "dup", "swap" -> 2;
            default -> 1;
        };
    }

    private List<Integer> plainEdges(int n) {
        Ins i = code.get(n);
        List<Integer> to = new ArrayList<>();
        if (!List.of("goto", "throw", "give", "back").contains(i.op)) {
            to.add(n + 1);
        }
        if (OPERANDS.get(i.op).equals("L")) {
            to.add(i.target);
        }
        return to;
    }

    private static List<Catch> catchesOf(Ins i, int n) {
        List<Catch> all = new ArrayList<>();
        for (Catch c : i.body.catches) {
            if (c.from <= n && n < c.to) {
                all.add(c);
            }
        }
        return all;
    }

    private static boolean fineHeight(Ins i, int h) {
        return h >= takes(i) && h - takes(i) + leaves(i) <= 8;
    }

    private void heights(Body b) {
        code.get(b.start).heights.add(0);
        boolean changed = true;
        while (changed) {
            changed = false;
            for (int n = b.start; n < b.end; n++) {
                Ins i = code.get(n);
                for (int h : new ArrayList<>(i.heights)) {
                    if (!fineHeight(i, h)) {
                        continue;
                    }
                    for (int to : plainEdges(n)) {
                        changed |= code.get(to).heights.add(h - takes(i) + leaves(i));
                    }
                    for (Catch c : catchesOf(i, n)) {
                        changed |= code.get(c.at).heights.add(1);
                    }
                }
            }
        }
        for (int n = b.start; n < b.end; n++) {
            Ins i = code.get(n);
            boolean wrong = i.heights.size() > 1;
            for (int h : i.heights) {
                wrong |= !fineHeight(i, h);
            }
            if (wrong) {
                throw new Fault(4, i.token);
            }
        }
    }

    private boolean joinTypes(int to, String[] come) {
        Ins i = code.get(to);
        if (i.held == null) {
            i.held = come.clone();
            return true;
        }
        boolean changed = false;
        for (int s = 0; s < come.length; s++) {
            String joined = join(i.held[s], come[s]);
            changed |= !joined.equals(i.held[s]);
            i.held[s] = joined;
        }
        return changed;
    }

    private void types(Body b) {
        String[] begin = new String[b.locals];
        Arrays.fill(begin, "UNSET");
        List<String> parameters = b.parameters();
        for (int k = 0; k < parameters.size(); k++) {
            begin[k] = parameters.get(k);
        }
        joinTypes(b.start, begin);
        boolean changed = true;
        while (changed) {
            changed = false;
            for (int n = b.start; n < b.end; n++) {
                Ins i = code.get(n);
                if (i.held == null) {
                    continue;
                }
                String[] behind = behind(i);
                if (behind != null) {
                    for (int to : plainEdges(n)) {
                        changed |= joinTypes(to, behind);
                    }
                }
                for (Catch c : catchesOf(i, n)) {
                    String[] caught = Arrays.copyOf(i.held, b.locals + 1);
                    caught[b.locals] = c.cls.name;
                    changed |= joinTypes(c.at, caught);
                }
            }
        }
        for (int n = b.start; n < b.end; n++) {
            if (code.get(n).held != null && !holds(code.get(n))) {
                throw new Fault(4, code.get(n).token);
            }
        }
    }

    private String[] behind(Ins i) {
        List<String> now = new ArrayList<>(Arrays.asList(i.held));
        List<String> taken = new ArrayList<>();
        for (int n = takes(i); n > 0; n--) {
            taken.add(0, now.remove(now.size() - 1));
        }
        switch (i.op) {
            case "null" -> now.add("null");
            case "load" -> now.add(i.held[i.k]);
            case "store" -> now.set(i.k, taken.get(0));
            case "dup" -> {
                now.add(taken.get(0));
                now.add(taken.get(0));
            }
            case "swap" -> {
                now.add(taken.get(1));
                now.add(taken.get(0));
            }
            case "new" -> now.add(i.type);
            case "array" -> now.add(i.type + "[]");
            case "aload" -> {
                String a = taken.get(0);
                if (a.equals("null")) {
                    return null;
                }
                now.add(a.endsWith("[]") ? a.substring(0, a.length() - 2) : "UNSET");
            }
            case "get" -> now.add(i.field.type);
            case "cast" -> now.add(i.type);
            case "call", "send" -> {
                if (!i.called.result.equals("none")) {
                    now.add(i.called.result);
                }
            }
            default -> {
                if (leaves(i) == 1) {
                    now.add("int");
                }
            }
        }
        return now.toArray(new String[0]);
    }

    private boolean holds(Ins i) {
        int h = i.held.length - takes(i);
        String a = takes(i) > 0 ? i.held[h] : "";
        String b = takes(i) > 1 ? i.held[h + 1] : "";
        String c = takes(i) > 2 ? i.held[h + 2] : "";
        boolean array = a.equals("null") || a.endsWith("[]");
        switch (i.op) {
            case "load":
                return !i.held[i.k].equals("UNSET");
            case "inc":
                return i.held[i.k].equals("int");
            case "isnull", "notnull", "cast", "is":
                return isRef(a);
            case "same", "other":
                return isRef(a) && isRef(b);
            case "length":
                return array;
            case "aload":
                return array && b.equals("int");
            case "astore":
                return array && b.equals("int")
                    && (a.equals("null") ? !c.equals("UNSET") : below(c, a.substring(0, a.length() - 2)));
            case "get":
                return below(a, i.cls.name);
            case "put":
                return below(a, i.cls.name) && below(b, i.field.type);
            case "call", "send":
                List<String> told = i.called.parameters();
                if (i.op.equals("send")) {
                    told.set(0, i.cls.name);
                }
                for (int k = 0; k < told.size(); k++) {
                    if (!below(i.held[h + k], told.get(k))) {
                        return false;
                    }
                }
                return true;
            case "throw":
                return below(a, "Error");
            case "give":
                return !i.body.result.equals("none") && below(a, i.body.result);
            case "back":
                return i.body.result.equals("none");
            case "store", "pop", "dup", "swap":
                return true;
            default:
                for (int k = 0; k < takes(i); k++) {
                    if (!i.held[h + k].equals("int")) {
                        return false;
                    }
                }
                return true;
        }
    }

    // ---------------------------------------------------------------- what is proved

    /** A range, or a set of sites with perhaps NULL. */
    record Value(boolean number, long low, long high, Set<Integer> sites) {
        static Value range(long l, long h) {
            return new Value(true, l, h, Set.of());
        }

        static Value refs(Set<Integer> sites) {
            return new Value(false, 0, 0, new TreeSet<>(sites));
        }

        boolean nothing() {
            return number ? low > high : sites.isEmpty();
        }

        Set<Integer> real() {
            Set<Integer> r = new TreeSet<>(sites);
            r.remove(NULL);
            return r;
        }
    }

    static Value join(Value p, Value q) {
        if (p == null || q == null) {
            return p == null ? q : p;
        }
        if (p.number) {
            return Value.range(Math.min(p.low, q.low), Math.max(p.high, q.high));
        }
        Set<Integer> all = new TreeSet<>(p.sites);
        all.addAll(q.sites);
        return Value.refs(all);
    }

    static Value common(Value p, Value q) {
        if (p.number) {
            return Value.range(Math.max(p.low, q.low), Math.min(p.high, q.high));
        }
        Set<Integer> all = new TreeSet<>(p.sites);
        all.retainAll(q.sites);
        return Value.refs(all);
    }

    static final class Slot {
        Value value;
        int copy = -1;
        final Set<Integer> less = new TreeSet<>();
        final Set<Integer> under = new TreeSet<>();
        final Set<Integer> length = new TreeSet<>();
        final Set<Integer> sized = new TreeSet<>();

        Slot(Value value) {
            this.value = value;
        }

        Slot same() {
            Slot s = new Slot(value);
            s.copy = copy;
            s.addSets(this);
            return s;
        }

        void addSets(Slot o) {
            less.addAll(o.less);
            under.addAll(o.under);
            length.addAll(o.length);
            sized.addAll(o.sized);
        }

        boolean equalTo(Slot o) {
            boolean v = value == null ? o.value == null : value.equals(o.value);
            return v && copy == o.copy && less.equals(o.less) && under.equals(o.under) && length.equals(o.length) && sized.equals(o.sized);
        }
    }

    static final class State {
        final Slot[] locals;
        final List<Slot> stack = new ArrayList<>();

        State(int n) {
            locals = new Slot[n];
            for (int k = 0; k < n; k++) {
                locals[k] = new Slot(null);
            }
        }

        State same() {
            State s = new State(locals.length);
            for (int k = 0; k < locals.length; k++) {
                s.locals[k] = locals[k].same();
            }
            for (Slot t : stack) {
                s.stack.add(t.same());
            }
            return s;
        }

        List<Slot> all() {
            List<Slot> all = new ArrayList<>(Arrays.asList(locals));
            all.addAll(stack);
            return all;
        }

        Slot pop() {
            return stack.remove(stack.size() - 1);
        }

        void push(Value v) {
            stack.add(new Slot(v));
        }

        void change(int k) {
            for (Slot s : all()) {
                s.copy = s.copy == k ? -1 : s.copy;
                s.less.remove(k);
                s.under.remove(k);
                s.length.remove(k);
                s.sized.remove(k);
            }
        }

        /** The local k, cut to the value; false if nothing is left. */
        boolean keep(int k, Value v) {
            if (k < 0) {
                return true;
            }
            locals[k].value = common(locals[k].value, v);
            return !locals[k].value.nothing();
        }
    }

    private static Slot joinSlots(Slot p, Slot q) {
        if (p.value == null || q.value == null || p.value.number != q.value.number) {
            return new Slot(null);
        }
        Slot s = new Slot(join(p.value, q.value));
        s.copy = p.copy == q.copy ? p.copy : -1;
        s.addSets(p);
        s.less.retainAll(q.less);
        s.under.retainAll(q.under);
        s.length.retainAll(q.length);
        s.sized.retainAll(q.sized);
        return s;
    }

    private final Map<String, Value> heap = new HashMap<>();
    private final Map<Integer, Value> lengths = new HashMap<>();
    private boolean changed;

    String siteType(int s) {
        return s < 48 ? siteTypes.get(s) : ERRORS.get(s - 48);
    }

    Value lengthsOf(int s) {
        return lengths.get(s);
    }

    private void bring(int to, State come) {
        Ins i = code.get(to);
        if (i.state == null) {
            i.state = come.same();
            changed = true;
            return;
        }
        List<Slot> old = i.state.all();
        List<Slot> now = come.all();
        State joined = new State(come.locals.length);
        for (int s = 0; s < old.size(); s++) {
            Slot j = joinSlots(old.get(s), now.get(s));
            changed |= !j.equalTo(old.get(s));
            if (s < joined.locals.length) {
                joined.locals[s] = j;
            } else {
                joined.stack.add(j);
            }
        }
        i.state = joined;
    }

    private void learn(String key, Value v) {
        Value j = join(heap.get(key), v);
        if (!j.equals(heap.get(key))) {
            heap.put(key, j);
            changed = true;
        }
    }

    private void prove() {
        for (long v : new long[] {MIN, MIN + 1, -1, 0, 1, MAX - 1, MAX}) {
            thresholds.add((int) v);
        }
        bring(main.start, new State(main.locals));
        changed = true;
        while (changed) {
            changed = false;
            for (int n = 0; n < code.size(); n++) {
                if (code.get(n).state != null) {
                    look(n);
                }
            }
        }
    }

    Value round(long l, long h) {
        if (l < MIN || l > MAX || h < MIN || h > MAX) {
            return Value.range(MIN, MAX);
        }
        return Value.range(thresholds.floor((int) l), thresholds.ceiling((int) h));
    }

    /** The least range that has the numbers of v from l to h. */
    private Value cut(Value v, long l, long h) {
        long low = Math.max(v.low, l);
        long high = Math.min(v.high, h);
        return low > high ? Value.range(1, 0) : round(low, high);
    }

    private Set<Integer> may;
    private int errors;
    private boolean moved;

    private void raise(int e) {
        errors |= 1 << e;
        may.add(48 + e);
    }

    private void on(int to, State s) {
        moved = true;
        bring(to, s);
    }

    private void look(int n) {
        Ins i = code.get(n);
        State came = i.state.same();
        may = new TreeSet<>();
        errors = 256;
        moved = false;
        State s = came.same();
        if (step(i, n, s)) {
            on(n + 1, s);
        }
        i.errors = moved ? errors : errors | 512;
        Set<Integer> left = new TreeSet<>(may);
        for (Catch c : catchesOf(i, n)) {
            Set<Integer> taken = new TreeSet<>();
            for (int site : left) {
                if (below(siteType(site), c.cls.name)) {
                    taken.add(site);
                }
            }
            if (!taken.isEmpty()) {
                State caught = came.same();
                caught.stack.clear();
                caught.push(Value.refs(taken));
                bring(c.at, caught);
                left.removeAll(taken);
            }
        }
        i.escaping = left;
        changed |= i.body.throwing.addAll(left);
    }

    /** Changes the state into the one behind the instruction; false if it does not go on to the next one. */
    private boolean step(Ins i, int n, State s) {
        switch (i.op) {
            case "push" -> s.push(Value.range(i.n, i.n));
            case "read" -> s.push(Value.range(MIN, MAX));
            case "null" -> s.push(Value.refs(Set.of(NULL)));
            case "load" -> {
                Slot t = s.locals[i.k].same();
                t.copy = i.k;
                s.stack.add(t);
            }
            case "store" -> {
                s.change(i.k);
                Slot t = s.pop();
                t.copy = -1;
                s.locals[i.k] = t;
            }
            case "inc" -> {
                Value v = s.locals[i.k].value;
                s.change(i.k);
                s.locals[i.k] = new Slot(round(v.low + i.n, v.high + i.n));
            }
            case "dup" -> s.stack.add(s.stack.get(s.stack.size() - 1).same());
            case "pop", "write" -> s.pop();
            case "swap" -> {
                Slot b = s.pop();
                Slot a = s.pop();
                s.stack.add(b);
                s.stack.add(a);
            }
            case "neg" -> {
                Value v = s.pop().value;
                s.push(round(-v.high, -v.low));
            }
            case "add", "sub", "mul", "div", "rem", "and", "or", "xor", "shl", "shr" -> {
                Value b = s.pop().value;
                Value a = s.pop().value;
                if ((i.op.equals("div") || i.op.equals("rem")) && b.low <= 0 && b.high >= 0) {
                    raise(3);
                }
                Value r = arithmetic(i.op, a, b);
                if (r == null) {
                    return false;
                }
                s.push(r);
            }
            case "goto" -> {
                on(i.target, s);
                return false;
            }
            case "eq", "ne", "lt", "le", "gt", "ge" -> {
                compare(s.same(), i.op, i.target);
                String contrary = Map.of("eq", "ne", "ne", "eq", "lt", "ge", "ge", "lt", "le", "gt", "gt", "le").get(i.op);
                compare(s.same(), contrary, n + 1);
                return false;
            }
            case "isnull", "notnull" -> {
                nullWay(s.same(), true, i.op.equals("isnull") ? i.target : n + 1);
                nullWay(s.same(), false, i.op.equals("isnull") ? n + 1 : i.target);
                return false;
            }
            case "same", "other" -> {
                sameWay(s.same(), i.op.equals("same") ? i.target : n + 1);
                State t = s.same();
                t.pop();
                t.pop();
                on(i.op.equals("same") ? n + 1 : i.target, t);
                return false;
            }
            default -> {
                return object(i, s);
            }
        }
        return true;
    }

    private Value arithmetic(String op, Value a, Value b) {
        long l = a.low;
        long h = a.high;
        switch (op) {
            case "add":
                return round(l + b.low, h + b.high);
            case "sub":
                return round(l - b.high, h - b.low);
            case "mul":
                return hull(l * b.low, l * b.high, h * b.low, h * b.high);
            case "div": {
                TreeSet<Long> all = new TreeSet<>();
                for (long d : new long[] {-1, 1, b.low, b.high}) {
                    if (d != 0 && d >= b.low && d <= b.high) {
                        all.add(l / d);
                        all.add(h / d);
                    }
                }
                return all.isEmpty() ? null : round(all.first(), all.last());
            }
            case "rem": {
                if (b.low == 0 && b.high == 0) {
                    return null;
                }
                long m = Math.max(Math.abs(b.low), Math.abs(b.high)) - 1;
                if (l >= 0) {
                    return round(0, Math.min(h, m));
                }
                return h <= 0 ? round(Math.max(l, -m), 0) : round(Math.max(l, -m), Math.min(h, m));
            }
            case "and":
                if (l >= 0 && b.low >= 0) {
                    return round(0, Math.min(h, b.high));
                }
                return l >= 0 ? round(0, h) : b.low >= 0 ? round(0, b.high) : Value.range(MIN, MAX);
            case "or", "xor": {
                long k = 1;
                while (k - 1 < h || k - 1 < b.high) {
                    k *= 2;
                }
                return l >= 0 && b.low >= 0 ? round(0, k - 1) : Value.range(MIN, MAX);
            }
            case "shl": {
                long f = 1L << (b.low & 31);
                return b.low == b.high ? hull(l * f, h * f) : Value.range(MIN, MAX);
            }
            default:
                return b.low == b.high ? round(l >> (b.low & 31), h >> (b.low & 31)) : round(Math.min(l, 0), Math.max(h, -1));
        }
    }

    private Value hull(long... all) {
        Arrays.sort(all);
        return round(all[0], all[all.length - 1]);
    }

    private void compare(State s, String relation, int to) {
        Slot b = s.pop();
        Slot a = s.pop();
        Slot x = relation.startsWith("g") ? b : a;
        Slot y = relation.startsWith("g") ? a : b;
        Value p = x.value;
        Value q = y.value;
        switch (relation) {
            case "eq" -> {
                x.value = common(p, q);
                y.value = x.value;
                x.addSets(y);
                y.addSets(x);
            }
            case "ne" -> {
                x.value = apart(p, q);
                y.value = apart(q, p);
            }
            case "lt", "gt" -> {
                x.value = cut(p, MIN, q.high - 1);
                y.value = cut(q, p.low + 1, MAX);
                x.less.addAll(y.less);
                if (y.copy >= 0) {
                    x.less.add(y.copy);
                }
                x.under.addAll(y.under);
                x.under.addAll(y.length);
            }
            default -> {
                x.value = cut(p, MIN, q.high);
                y.value = cut(q, p.low, MAX);
                x.less.addAll(y.less);
                x.under.addAll(y.under);
            }
        }
        if (x.value.nothing() || y.value.nothing()) {
            return;
        }
        for (Slot t : List.of(a, b)) {
            if (!s.keep(t.copy, t.value)) {
                return;
            }
            if (t.copy >= 0) {
                s.locals[t.copy].addSets(t);
            }
        }
        on(to, s);
    }

    private Value apart(Value p, Value q) {
        if (q.low != q.high) {
            return p;
        }
        long l = p.low == q.low ? p.low + 1 : p.low;
        long h = p.high == q.low ? p.high - 1 : p.high;
        return l > h ? Value.range(1, 0) : round(l, h);
    }

    private void nullWay(State s, boolean isNull, int to) {
        Slot r = s.pop();
        Value kept = Value.refs(isNull ? Set.of(NULL) : realSites());
        if (!common(r.value, kept).nothing() && s.keep(r.copy, kept)) {
            on(to, s);
        }
    }

    private Set<Integer> realSites() {
        Set<Integer> all = new TreeSet<>();
        for (int s = 0; s < 54; s++) {
            all.add(s);
        }
        return all;
    }

    private void sameWay(State s, int to) {
        Slot b = s.pop();
        Slot a = s.pop();
        Value both = common(a.value, b.value);
        if (!both.nothing() && s.keep(a.copy, both) && s.keep(b.copy, both)) {
            on(to, s);
        }
    }

    private boolean dereference(State s, Slot r) {
        if (r.value.sites.contains(NULL)) {
            raise(0);
        }
        return !r.value.real().isEmpty() && s.keep(r.copy, Value.refs(realSites()));
    }

    private static Value zero(String type) {
        return type.equals("int") ? Value.range(0, 0) : Value.refs(Set.of(NULL));
    }

    private boolean object(Ins i, State s) {
        switch (i.op) {
            case "new": {
                Cls c = classes.get(i.type);
                for (Field f : fields) {
                    if (c.isBelow(f.owner)) {
                        learn(i.site + "." + f.name, zero(f.type));
                    }
                }
                s.push(Value.refs(Set.of(i.site)));
                return true;
            }
            case "array": {
                Slot count = s.pop();
                if (count.value.low < 0) {
                    raise(2);
                }
                if (count.value.high < 0) {
                    return false;
                }
                Value j = join(lengths.get(i.site), Value.range(Math.max(count.value.low, 0), count.value.high));
                changed |= !j.equals(lengths.put(i.site, j));
                learn(i.site + "[]", zero(i.type));
                Slot made = new Slot(Value.refs(Set.of(i.site)));
                if (count.copy >= 0) {
                    made.sized.add(count.copy);
                }
                s.stack.add(made);
                return true;
            }
            case "length": {
                Slot r = s.pop();
                if (!dereference(s, r)) {
                    return false;
                }
                Value all = null;
                for (int site : r.value.real()) {
                    all = join(all, lengths.get(site));
                }
                if (all == null) {
                    return false;
                }
                Slot length = new Slot(all);
                if (r.copy >= 0) {
                    length.length.add(r.copy);
                }
                s.stack.add(length);
                return true;
            }
            case "aload", "astore":
                return element(i, s);
            case "get": {
                Slot r = s.pop();
                if (!dereference(s, r)) {
                    return false;
                }
                Value all = null;
                for (int site : r.value.real()) {
                    all = join(all, heap.get(site + "." + i.field.name));
                }
                s.push(all);
                return all != null;
            }
            case "put": {
                Value v = s.pop().value;
                Slot r = s.pop();
                if (!dereference(s, r)) {
                    return false;
                }
                for (int site : r.value.real()) {
                    learn(site + "." + i.field.name, v);
                }
                return true;
            }
            case "cast", "is":
                return typed(i, s);
            default:
                return called(i, s);
        }
    }

    private boolean element(Ins i, State s) {
        Value v = i.op.equals("astore") ? s.pop().value : null;
        Slot x = s.pop();
        Slot r = s.pop();
        if (!dereference(s, r)) {
            return false;
        }
        long highest = -1;
        boolean below = true;
        for (int site : r.value.real()) {
            Value l = lengths.get(site);
            if (l != null) {
                highest = Math.max(highest, l.high);
                below &= x.value.high < l.low;
            }
        }
        Set<Integer> meet = new TreeSet<>(x.less);
        meet.retainAll(r.sized);
        if (x.value.low < 0 || !(below || !meet.isEmpty() || r.copy >= 0 && x.under.contains(r.copy))) {
            raise(1);
        }
        Value inside = cut(x.value, 0, highest - 1);
        if (inside.nothing() || !s.keep(x.copy, inside)) {
            return false;
        }
        if (x.copy >= 0 && r.copy >= 0) {
            s.locals[x.copy].under.add(r.copy);
        }
        Value all = null;
        boolean some = false;
        for (int site : r.value.real()) {
            String element = siteType(site).replace("[]", "");
            if (v == null) {
                all = join(all, heap.get(site + "[]"));
            } else if (v.number) {
                learn(site + "[]", v);
                some = true;
            } else {
                Set<Integer> fits = new TreeSet<>();
                for (int w : v.sites) {
                    if (w == NULL || below(siteType(w), element)) {
                        fits.add(w);
                    } else {
                        raise(5);
                    }
                }
                if (!fits.isEmpty()) {
                    learn(site + "[]", Value.refs(fits));
                    some = true;
                }
            }
        }
        if (v == null) {
            s.push(all);
        }
        return v == null ? all != null : some;
    }

    private boolean typed(Ins i, State s) {
        Slot r = s.pop();
        Set<Integer> yes = new TreeSet<>();
        boolean no = false;
        for (int site : r.value.real()) {
            if (below(siteType(site), i.type)) {
                yes.add(site);
            } else {
                no = true;
            }
        }
        if (i.op.equals("is")) {
            no |= r.value.sites.contains(NULL);
            s.push(Value.range(no ? 0 : 1, yes.isEmpty() ? 0 : 1));
            return no || !yes.isEmpty();
        }
        if (no) {
            raise(4);
        }
        if (r.value.sites.contains(NULL)) {
            yes.add(NULL);
        }
        r.value = Value.refs(yes);
        s.stack.add(r);
        return !yes.isEmpty() && s.keep(r.copy, r.value);
    }

    private boolean called(Ins i, State s) {
        switch (i.op) {
            case "throw": {
                Slot r = s.pop();
                if (r.value.sites.contains(NULL)) {
                    raise(0);
                }
                if (!r.value.real().isEmpty()) {
                    errors |= 64;
                    may.addAll(r.value.real());
                }
                return false;
            }
            case "give", "back": {
                changed |= !i.body.ends;
                i.body.ends = true;
                if (i.op.equals("give")) {
                    Value j = join(i.body.given, s.pop().value);
                    changed |= !j.equals(i.body.given);
                    i.body.given = j;
                }
                return false;
            }
            default:
        }
        List<Value> arguments = new ArrayList<>();
        Slot first = null;
        for (int n = takes(i); n > 0; n--) {
            first = s.pop();
            arguments.add(0, first.value);
        }
        Map<Body, Set<Integer>> meant = new LinkedHashMap<>();
        if (i.op.equals("call")) {
            meant.put(i.called, null);
        } else if (dereference(s, first)) {
            for (int site : first.value.real()) {
                Body b = classes.get(siteType(site)).body(i.called.name);
                meant.computeIfAbsent(b, k -> new TreeSet<>()).add(site);
            }
        }
        boolean ends = false;
        Value given = null;
        for (Map.Entry<Body, Set<Integer>> m : meant.entrySet()) {
            Body b = m.getKey();
            State begin = new State(b.locals);
            for (int k = 0; k < arguments.size(); k++) {
                begin.locals[k].value = arguments.get(k);
            }
            if (m.getValue() != null) {
                begin.locals[0].value = Value.refs(m.getValue());
            }
            bring(b.start, begin);
            if (!b.throwing.isEmpty()) {
                errors |= 128;
                may.addAll(b.throwing);
            }
            if (b.ends) {
                ends = true;
                given = join(given, b.given);
            }
        }
        if (ends && given != null) {
            s.push(given);
        }
        return ends;
    }

    // ---------------------------------------------------------------- running

    int outcome;
    int steps;
    int place;
    int thrown;
    final List<Integer> output = new ArrayList<>();

    private static final class Thing {
        int site;
        Object[] cells;
        final Map<Field, Object> fields = new HashMap<>();
    }

    private static final class Frame {
        Body body;
        int at;
        Object[] locals;
        final List<Object> stack = new ArrayList<>();

        Object pop() {
            return stack.remove(stack.size() - 1);
        }

        int popInt() {
            return (Integer) pop();
        }
    }

    private static final class Stop extends RuntimeException {
        private static final long serialVersionUID = 1L;
        final int how;

        Stop(int how) {
            super(null, null, false, false);
            this.how = how;
        }
    }

    private static final class Thrown extends RuntimeException {
        private static final long serialVersionUID = 1L;
        final transient Thing what;

        Thrown(Thing what) {
            super(null, null, false, false);
            this.what = what;
        }
    }

    private int objects;
    private int cells;
    private List<Integer> input;
    private final List<Frame> frames = new ArrayList<>();

    void run(List<Integer> given, int fuel) {
        input = new ArrayList<>(given);
        output.clear();
        frames.clear();
        objects = 0;
        cells = 0;
        steps = 0;
        thrown = -1;
        frames.add(frame(main));
        try {
            while (true) {
                Frame f = frames.get(frames.size() - 1);
                place = f.at;
                if (steps == fuel) {
                    throw new Stop(2);
                }
                steps++;
                try {
                    execute(f, code.get(f.at));
                } catch (Thrown t) {
                    unwind(t.what);
                }
            }
        } catch (Stop s) {
            outcome = s.how;
        }
    }

    private static Frame frame(Body b) {
        Frame f = new Frame();
        f.body = b;
        f.at = b.start;
        f.locals = new Object[12];
        return f;
    }

    private void unwind(Thing t) {
        while (true) {
            Frame f = frames.get(frames.size() - 1);
            for (Catch c : catchesOf(code.get(f.at), f.at)) {
                if (below(siteType(t.site), c.cls.name)) {
                    f.stack.clear();
                    f.stack.add(t);
                    f.at = c.at;
                    return;
                }
            }
            frames.remove(frames.size() - 1);
            if (frames.isEmpty()) {
                thrown = t.site;
                throw new Stop(1);
            }
        }
    }

    private Thing make(int site, int size) {
        if (objects == 2000 || cells + (long) size > 12000) {
            throw new Stop(3);
        }
        objects++;
        cells += size;
        Thing t = new Thing();
        t.site = site;
        return t;
    }

    private Thrown error(int e) {
        return new Thrown(make(48 + e, 0));
    }

    private Thing must(Object o) {
        if (o == null) {
            throw error(0);
        }
        return (Thing) o;
    }

    private static Object zeroOf(String type) {
        return type.equals("int") ? Integer.valueOf(0) : null;
    }

    private void execute(Frame f, Ins i) {
        int at = f.at;
        List<Object> st = f.stack;
        switch (i.op) {
            case "push" -> st.add(i.n);
            case "null" -> st.add(null);
            case "load" -> st.add(f.locals[i.k]);
            case "store" -> f.locals[i.k] = f.pop();
            case "inc" -> f.locals[i.k] = (Integer) f.locals[i.k] + i.n;
            case "dup" -> st.add(st.get(st.size() - 1));
            case "pop" -> f.pop();
            case "swap" -> {
                Object b = f.pop();
                st.add(st.size() - 1, b);
            }
            case "neg" -> st.add(-f.popInt());
            case "add", "sub", "mul", "div", "rem", "and", "or", "xor", "shl", "shr" -> {
                int b = f.popInt();
                int a = f.popInt();
                st.add(compute(i.op, a, b));
            }
            case "goto" -> {
                f.at = i.target;
                return;
            }
            case "eq", "ne", "lt", "le", "gt", "ge", "isnull", "notnull", "same", "other" -> {
                f.at = jumps(f, i.op) ? i.target : at + 1;
                return;
            }
            case "read" -> st.add(input.isEmpty() ? 0 : input.remove(0));
            case "write" -> output.add(f.popInt());
            case "new" -> {
                Cls c = classes.get(i.type);
                Thing t = make(i.site, c.cells());
                for (Field g : fields) {
                    if (c.isBelow(g.owner)) {
                        t.fields.put(g, zeroOf(g.type));
                    }
                }
                st.add(t);
            }
            case "array" -> {
                int n = f.popInt();
                if (n < 0) {
                    throw error(2);
                }
                Thing t = make(i.site, n);
                t.cells = new Object[n];
                Arrays.fill(t.cells, zeroOf(i.type));
                st.add(t);
            }
            case "length" -> st.add(must(f.pop()).cells.length);
            case "aload" -> {
                int x = f.popInt();
                Thing t = must(f.pop());
                st.add(t.cells[index(t, x)]);
            }
            case "astore" -> {
                Object v = f.pop();
                int x = f.popInt();
                Thing t = must(f.pop());
                index(t, x);
                String element = siteType(t.site).replace("[]", "");
                if (v instanceof Thing u && !below(siteType(u.site), element)) {
                    throw error(5);
                }
                t.cells[x] = v;
            }
            case "get" -> st.add(must(f.pop()).fields.get(i.field));
            case "put" -> {
                Object v = f.pop();
                must(f.pop()).fields.put(i.field, v);
            }
            case "is" -> {
                Object o = f.pop();
                st.add(o instanceof Thing t && below(siteType(t.site), i.type) ? 1 : 0);
            }
            case "cast" -> {
                Object o = f.pop();
                if (o instanceof Thing t && !below(siteType(t.site), i.type)) {
                    throw error(4);
                }
                st.add(o);
            }
            case "throw" -> throw new Thrown(must(f.pop()));
            case "call", "send" -> {
                enter(f, i);
                return;
            }
            default -> {
                if (frames.size() == 1) {
                    throw new Stop(0);
                }
                frames.remove(frames.size() - 1);
                Frame caller = frames.get(frames.size() - 1);
                if (i.op.equals("give")) {
                    caller.stack.add(f.pop());
                }
                caller.at++;
                return;
            }
        }
        f.at = at + 1;
    }

    private int index(Thing t, int x) {
        if (x < 0 || x >= t.cells.length) {
            throw error(1);
        }
        return x;
    }

    private int compute(String op, int a, int b) {
        if ((op.equals("div") || op.equals("rem")) && b == 0) {
            throw error(3);
        }
        return switch (op) {
            case "add" -> a + b;
            case "sub" -> a - b;
            case "mul" -> a * b;
            case "div" -> a / b;
            case "rem" -> a % b;
            case "and" -> a & b;
            case "or" -> a | b;
            case "xor" -> a ^ b;
            case "shl" -> a << b;
            default -> a >> b;
        };
    }

    private static boolean jumps(Frame f, String op) {
        Object b = f.pop();
        switch (op) {
            case "isnull":
                return b == null;
            case "notnull":
                return b != null;
            case "same":
                return f.pop() == b;
            case "other":
                return f.pop() != b;
            default:
        }
        int c = Integer.compare(f.popInt(), (Integer) b);
        return switch (op) {
            case "eq" -> c == 0;
            case "ne" -> c != 0;
            case "lt" -> c < 0;
            case "le" -> c <= 0;
            case "gt" -> c > 0;
            default -> c >= 0;
        };
    }

    private void enter(Frame f, Ins i) {
        int arity = takes(i);
        Body b = i.called;
        if (i.op.equals("send")) {
            Thing t = must(f.stack.get(f.stack.size() - arity));
            b = classes.get(siteType(t.site)).body(b.name);
        }
        if (frames.size() == 64) {
            throw new Stop(4);
        }
        Frame g = frame(b);
        for (int k = arity - 1; k >= 0; k--) {
            g.locals[k] = f.pop();
        }
        frames.add(g);
    }
}
