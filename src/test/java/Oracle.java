import java.util.ArrayList;
import java.util.Collections;
import java.util.HashMap;
import java.util.HashSet;
import java.util.LinkedHashMap;
import java.util.List;
import java.util.Map;
import java.util.Set;

/**
 * The document once more, in another way: recursive, with lists as sequences and exceptions as endings.
 * It is slow and plain, and made to be compared with NestedVectors on programs made by chance.
 */
final class Oracle {
    static final class Ending extends RuntimeException {
        private static final long serialVersionUID = 1L;
        final int code;
        final int place;

        Ending(int code, int place) {
            super("ending", null, false, false);
            this.code = code;
            this.place = place;
        }
    }

    static final class Binding {
        final String name;
        final int depth;

        Binding(String name, int depth) {
            this.name = name;
            this.depth = depth;
        }
    }

    static final class Node {
        final String op;
        final int place;
        int value;
        String name;
        int depth;
        Binding binding;
        Def def;
        final List<Node> parts = new ArrayList<>();
        final List<String> genNames = new ArrayList<>();
        final List<Integer> genPlaces = new ArrayList<>();
        final List<Binding> genBindings = new ArrayList<>();
        Node guard;
        Node body;

        Node(String op, int place) {
            this.op = op;
            this.place = place;
        }
    }

    static final class Def {
        String name;
        int place;
        final List<String> params = new ArrayList<>();
        final List<Integer> places = new ArrayList<>();
        final List<Integer> depths = new ArrayList<>();
        final List<Binding> bindings = new ArrayList<>();
        Node body;
    }

    record Token(String text, char type, int place) {
    }

    static final class Value {
        final int[] row;
        final Value items;

        Value(int[] row, Value items) {
            this.row = row;
            this.items = items;
        }
    }

    private static final Set<String> CALLS = Set.of("iota", "dist", "sum", "max", "min", "scan", "rev", "cat",
        "flat", "pack", "perm", "part");
    private static final Set<String> OTHER = Set.of("def", "let", "in", "if", "then", "else");

    private final String text;
    private final List<Token> tokens = new ArrayList<>();
    private int at;
    final List<Node> nodes = new ArrayList<>();
    final List<Def> defs = new ArrayList<>();
    Node root;
    int fault;
    int faultPlace;
    int work;
    int span;
    int nestedEnd;
    String nestedText = "";
    int steps;
    int cells;
    int most;
    int flatEnd;
    String flatText = "";

    Oracle(String text) {
        this.text = text;
        try {
            tokenize();
            parseProgram();
            checkProgram();
        } catch (Ending e) {
            fault = e.code;
            faultPlace = e.place;
        }
    }

    // ---- tokens

    private void tokenize() {
        int i = 0;
        while (i < text.length()) {
            char c = text.charAt(i);
            if (c == ' ' || c == '\n') {
                i++;
                continue;
            }
            int j = i + 1;
            if (c >= '0' && c <= '9') {
                while (j < text.length() && text.substring(j, j + 1).matches("[0-9]")) {
                    j++;
                }
                tokens.add(new Token(text.substring(i, j), j - i > 9 ? '!' : 'n', i));
            } else if (c >= 'a' && c <= 'z') {
                while (j < text.length() && text.substring(j, j + 1).matches("[a-z0-9]")) {
                    j++;
                }
                String word = text.substring(i, j);
                boolean reserved = CALLS.contains(word) || OTHER.contains(word);
                tokens.add(new Token(word, j - i > 8 ? '!' : reserved ? 'r' : 'w', i));
            } else {
                boolean sign = "(){}[],:;|=<+-*/%#".indexOf(c) >= 0;
                tokens.add(new Token(text.substring(i, j), sign ? 's' : '!', i));
            }
            i = j;
        }
        tokens.add(new Token("", 'e', text.length()));
    }

    private Token now() {
        return tokens.get(at);
    }

    private boolean is(String s) {
        return now().type != '!' && now().type != 'e' && now().type != 'n' && now().text.equals(s);
    }

    private Ending syntax() {
        return new Ending(1, now().place);
    }

    private void need(String s) {
        if (!is(s)) {
            throw syntax();
        }
        at++;
    }

    private String needName() {
        if (now().type != 'w') {
            throw syntax();
        }
        return tokens.get(at++).text;
    }

    private Node node(String op) {
        if (nodes.size() == 200) {
            throw syntax();
        }
        Node n = new Node(op, now().place);
        nodes.add(n);
        return n;
    }

    // ---- grammar

    private void parseProgram() {
        while (is("def")) {
            if (defs.size() == 12) {
                throw syntax();
            }
            at++;
            Def d = new Def();
            d.place = now().place;
            d.name = needName();
            defs.add(d);
            need("(");
            if (!is(")")) {
                parseParam(d);
                while (is(",")) {
                    at++;
                    parseParam(d);
                }
            }
            need(")");
            need("=");
            d.body = parseExpr(0);
            need(";");
        }
        root = parseExpr(0);
        if (now().type != 'e') {
            throw syntax();
        }
    }

    private void parseParam(Def d) {
        if (d.params.size() == 6) {
            throw syntax();
        }
        d.places.add(now().place);
        d.params.add(needName());
        need(":");
        d.depths.add(parseType(0));
    }

    private int parseType(int inside) {
        if (is("[")) {
            deeper(inside);
            at++;
            int depth = parseType(inside + 1) + 1;
            need("]");
            return depth;
        }
        need("int");
        return 0;
    }

    private void deeper(int inside) {
        if (inside >= 12) {
            throw syntax();
        }
    }

    private Node parseExpr(int inside) {
        if (is("let")) {
            deeper(inside);
            Node n = node("let");
            at++;
            n.name = needName();
            need("=");
            n.parts.add(parseExpr(inside + 1));
            need("in");
            n.parts.add(parseExpr(inside + 1));
            return n;
        }
        if (is("if")) {
            deeper(inside);
            Node n = node("if");
            at++;
            n.parts.add(parseExpr(inside + 1));
            need("then");
            n.parts.add(parseExpr(inside + 1));
            need("else");
            n.parts.add(parseExpr(inside + 1));
            return n;
        }
        Node left = parseSum(inside);
        if (is("<") || is("=")) {
            Node n = node(now().text);
            at++;
            n.parts.add(left);
            n.parts.add(parseSum(inside));
            return n;
        }
        return left;
    }

    private Node parseSum(int inside) {
        Node left = parseProduct(inside);
        while (is("+") || is("-")) {
            Node n = node(now().text);
            at++;
            n.parts.add(left);
            n.parts.add(parseProduct(inside));
            left = n;
        }
        return left;
    }

    private Node parseProduct(int inside) {
        Node left = parseUnary(inside);
        while (is("*") || is("/") || is("%")) {
            Node n = node(now().text);
            at++;
            n.parts.add(left);
            n.parts.add(parseUnary(inside));
            left = n;
        }
        return left;
    }

    private Node parseUnary(int inside) {
        if (is("#")) {
            deeper(inside);
            Node n = node("#");
            at++;
            n.parts.add(parseUnary(inside + 1));
            return n;
        }
        Node left = parseAtom(inside);
        while (is("[")) {
            deeper(inside);
            Node n = node("index");
            at++;
            n.parts.add(left);
            n.parts.add(parseExpr(inside + 1));
            need("]");
            left = n;
        }
        return left;
    }

    private Node parseAtom(int inside) {
        Token t = now();
        if (t.type == 'n') {
            Node n = node("number");
            n.value = Integer.parseInt(t.text);
            at++;
            return n;
        }
        if (t.type == 'w' || t.type == 'r' && CALLS.contains(t.text)) {
            boolean call = t.type == 'r' || tokens.get(at + 1).text.equals("(");
            Node n = node(t.type == 'r' ? t.text : call ? "call" : "name");
            n.name = t.text;
            at++;
            if (call) {
                if (is("(")) {
                    deeper(inside);
                }
                need("(");
                if (!is(")")) {
                    parseList(n, inside + 1);
                }
                need(")");
            }
            return n;
        }
        if (is("(")) {
            deeper(inside);
            at++;
            Node n = parseExpr(inside + 1);
            need(")");
            return n;
        }
        if (is("[")) {
            deeper(inside);
            Node n = node("row");
            at++;
            parseList(n, inside + 1);
            need("]");
            return n;
        }
        if (is("{")) {
            deeper(inside);
            return parseEach(inside);
        }
        throw syntax();
    }

    private void parseList(Node n, int inside) {
        n.parts.add(parseExpr(inside));
        while (is(",")) {
            at++;
            n.parts.add(parseExpr(inside));
        }
    }

    private Node parseEach(int inside) {
        Node n = node("each");
        at++;
        n.body = parseExpr(inside + 1);
        need(":");
        boolean more = true;
        while (more) {
            if (n.genNames.size() == 4) {
                throw syntax();
            }
            n.genPlaces.add(now().place);
            n.genNames.add(needName());
            need("in");
            n.parts.add(parseExpr(inside + 1));
            more = is(",");
            at += more ? 1 : 0;
        }
        if (is("|")) {
            at++;
            n.guard = parseExpr(inside + 1);
        }
        need("}");
        return n;
    }

    // ---- names and types

    private void checkProgram() {
        Map<String, Def> known = new HashMap<>();
        for (Def d : defs) {
            if (known.containsKey(d.name)) {
                throw new Ending(2, d.place);
            }
            Map<String, Binding> scope = new HashMap<>();
            for (int i = 0; i < d.params.size(); i++) {
                if (scope.containsKey(d.params.get(i))) {
                    throw new Ending(2, d.places.get(i));
                }
                if (d.depths.get(i) > 3) {
                    throw new Ending(3, d.places.get(i));
                }
                Binding b = new Binding(d.params.get(i), d.depths.get(i));
                d.bindings.add(b);
                scope.put(b.name, b);
            }
            checkNode(d.body, scope, known);
            known.put(d.name, d);
        }
        checkNode(root, new HashMap<>(), known);
    }

    private void typed(boolean holds, Node n) {
        if (!holds) {
            throw new Ending(3, n.place);
        }
    }

    private static Map<String, Binding> with(Map<String, Binding> scope, Binding b) {
        Map<String, Binding> wider = new HashMap<>(scope);
        wider.put(b.name, b);
        return wider;
    }

    private void checkNode(Node n, Map<String, Binding> scope, Map<String, Def> known) {
        if (n.op.equals("let")) {
            checkNode(n.parts.get(0), scope, known);
            n.binding = new Binding(n.name, n.parts.get(0).depth);
            checkNode(n.parts.get(1), with(scope, n.binding), known);
            n.depth = n.parts.get(1).depth;
            return;
        }
        for (Node p : n.parts) {
            checkNode(p, scope, known);
        }
        int count = n.parts.size();
        int a = count > 0 ? n.parts.get(0).depth : -1;
        int b = count > 1 ? n.parts.get(1).depth : -1;
        switch (n.op) {
            case "number" -> n.depth = 0;
            case "name" -> {
                n.binding = scope.get(n.name);
                if (n.binding == null) {
                    throw new Ending(2, n.place);
                }
                n.depth = n.binding.depth;
            }
            case "call" -> checkCall(n, known);
            case "each" -> checkEach(n, scope, known);
            case "if" -> {
                typed(a == 0 && b == n.parts.get(2).depth, n);
                n.depth = b;
            }
            case "row" -> {
                for (Node p : n.parts) {
                    typed(p.depth == a, n);
                }
                n.depth = a + 1;
            }
            case "#" -> typed(a >= 1, n);
            case "index" -> {
                typed(a >= 1 && b == 0, n);
                n.depth = a - 1;
            }
            case "iota" -> {
                typed(count == 1 && a == 0, n);
                n.depth = 1;
            }
            case "dist" -> {
                typed(count == 2 && b == 0, n);
                n.depth = a + 1;
            }
            case "sum", "max", "min" -> typed(count == 1 && a == 1, n);
            case "scan" -> {
                typed(count == 1 && a == 1, n);
                n.depth = 1;
            }
            case "rev" -> {
                typed(count == 1 && a >= 1, n);
                n.depth = a;
            }
            case "cat" -> {
                typed(count == 2 && a >= 1 && a == b, n);
                n.depth = a;
            }
            case "flat" -> {
                typed(count == 1 && a >= 2, n);
                n.depth = a - 1;
            }
            case "pack", "perm" -> {
                typed(count == 2 && a >= 1 && b == 1, n);
                n.depth = a;
            }
            case "part" -> {
                typed(count == 2 && a >= 1 && b == 1, n);
                n.depth = a + 1;
            }
            default -> typed(a == 0 && b == 0, n);
        }
        typed(n.depth <= 3, n);
    }

    private void checkCall(Node n, Map<String, Def> known) {
        n.def = known.get(n.name);
        if (n.def == null) {
            throw new Ending(2, n.place);
        }
        typed(n.parts.size() == n.def.params.size(), n);
        for (int i = 0; i < n.parts.size(); i++) {
            typed(n.parts.get(i).depth == n.def.depths.get(i), n);
        }
        n.depth = n.def.body.depth;
    }

    private void checkEach(Node n, Map<String, Binding> scope, Map<String, Def> known) {
        Set<String> seen = new HashSet<>();
        for (int i = 0; i < n.genNames.size(); i++) {
            if (!seen.add(n.genNames.get(i))) {
                throw new Ending(2, n.genPlaces.get(i));
            }
        }
        Map<String, Binding> inner = scope;
        for (int i = 0; i < n.parts.size(); i++) {
            typed(n.parts.get(i).depth >= 1, n);
            Binding b = new Binding(n.genNames.get(i), n.parts.get(i).depth - 1);
            n.genBindings.add(b);
            inner = with(inner, b);
        }
        if (n.guard != null) {
            checkNode(n.guard, inner, known);
        }
        checkNode(n.body, inner, known);
        typed(n.guard == null || n.guard.depth == 0, n);
        n.depth = n.body.depth + 1;
    }

    // ---- what one node does, on numbers and lists

    private static List<?> list(Object o) {
        return (List<?>) o;
    }

    private static int num(Object o) {
        return (Integer) o;
    }

    private static void unless(boolean holds, int finding) {
        if (!holds) {
            throw new Ending(finding, -1);
        }
    }

    private static Object primitive(String op, List<Object> p) {
        Object a = p.get(0);
        Object b = p.size() > 1 ? p.get(1) : null;
        switch (op) {
            case "<":
                return num(a) < num(b) ? 1 : 0;
            case "=":
                return num(a) == num(b) ? 1 : 0;
            case "+":
                return num(a) + num(b);
            case "-":
                return num(a) - num(b);
            case "*":
                return num(a) * num(b);
            case "/":
                unless(num(b) != 0, 1);
                return (int) ((long) num(a) / num(b));
            case "%":
                unless(num(b) != 0, 1);
                return (int) ((long) num(a) % num(b));
            case "#":
                return list(a).size();
            case "index":
                unless(num(b) >= 0 && num(b) < list(a).size(), 2);
                return list(a).get(num(b));
            case "row":
                return new ArrayList<>(p);
            case "iota": {
                unless(num(a) >= 0 && num(a) <= 200, 5);
                List<Object> r = new ArrayList<>();
                for (int i = 0; i < num(a); i++) {
                    r.add(i);
                }
                return r;
            }
            case "dist":
                unless(num(b) >= 0 && num(b) <= 200, 5);
                return Collections.nCopies(num(b), a);
            default:
                return ofLists(op, list(a), b == null ? null : list(b));
        }
    }

    private static Object ofLists(String op, List<?> s, List<?> t) {
        List<Object> r = new ArrayList<>();
        switch (op) {
            case "sum":
                return s.stream().mapToInt(Oracle::num).sum();
            case "max":
                unless(!s.isEmpty(), 4);
                return s.stream().mapToInt(Oracle::num).max().getAsInt();
            case "min":
                unless(!s.isEmpty(), 4);
                return s.stream().mapToInt(Oracle::num).min().getAsInt();
            case "scan":
                for (int i = 0; i < s.size(); i++) {
                    r.add(s.subList(0, i).stream().mapToInt(Oracle::num).sum());
                }
                return r;
            case "rev":
                r.addAll(s);
                Collections.reverse(r);
                return r;
            case "cat":
                unless(s.size() + t.size() <= 200, 5);
                r.addAll(s);
                r.addAll(t);
                return r;
            case "flat":
                unless(s.stream().mapToInt(x -> list(x).size()).sum() <= 200, 5);
                s.forEach(x -> r.addAll(list(x)));
                return r;
            case "pack":
                unless(s.size() == t.size(), 3);
                for (int i = 0; i < s.size(); i++) {
                    if (num(t.get(i)) != 0) {
                        r.add(s.get(i));
                    }
                }
                return r;
            case "perm": {
                unless(s.size() == t.size(), 3);
                List<Object> wanted = new ArrayList<>(t);
                for (int i = 0; i < s.size(); i++) {
                    unless(wanted.indexOf(i) >= 0, 6);
                    r.add(s.get(wanted.indexOf(i)));
                }
                return r;
            }
            default: {
                long total = 0;
                for (Object x : t) {
                    unless(num(x) >= 0, 5);
                    total += num(x);
                }
                unless(total == s.size(), 3);
                int from = 0;
                for (Object x : t) {
                    r.add(new ArrayList<Object>(s.subList(from, from + num(x))));
                    from += num(x);
                }
                return r;
            }
        }
    }

    private static boolean makes(String op) {
        return Set.of("row", "each", "iota", "dist", "scan", "rev", "cat", "flat", "pack", "perm", "part").contains(op);
    }

    /** The COUNT, or something above the limit. */
    private static int count(Object o, int limit) {
        if (o instanceof Integer) {
            return 0;
        }
        int c = 0;
        for (Object x : list(o)) {
            c += 1 + count(x, limit);
            if (c > limit) {
                return c;
            }
        }
        return c;
    }

    static String show(Object o) {
        StringBuilder sb = new StringBuilder();
        show(o, sb);
        return sb.toString();
    }

    private static void show(Object o, StringBuilder sb) {
        if (o instanceof Integer i) {
            sb.append(i);
            return;
        }
        String mark = "";
        sb.append('[');
        for (Object x : list(o)) {
            sb.append(mark);
            show(x, sb);
            mark = ",";
        }
        sb.append(']');
    }

    // ---- nested

    void runNested() {
        work = 0;
        nestedEnd = 0;
        int[] spanOut = new int[1];
        try {
            nestedText = show(nestedOf(root, new HashMap<>(), spanOut));
            span = spanOut[0];
        } catch (Ending e) {
            nestedEnd = e.code;
        }
    }

    private void pay(int n) {
        unless(work + n <= 3000, 7);
        work += n;
    }

    /** The value; its span is added to spanOut. */
    private Object nestedOf(Node n, Map<Binding, Object> env, int[] spanOut) {
        pay(1);
        spanOut[0]++;
        switch (n.op) {
            case "number":
                return n.value;
            case "name":
                return env.get(n.binding);
            case "let": {
                Map<Binding, Object> inner = new HashMap<>(env);
                inner.put(n.binding, nestedOf(n.parts.get(0), env, spanOut));
                return nestedOf(n.parts.get(1), inner, spanOut);
            }
            case "if":
                return nestedOf(n.parts.get(num(nestedOf(n.parts.get(0), env, spanOut)) != 0 ? 1 : 2), env, spanOut);
            case "each":
                return nestedEach(n, env, spanOut);
            default:
        }
        List<Object> p = new ArrayList<>();
        for (Node part : n.parts) {
            p.add(nestedOf(part, env, spanOut));
        }
        if (n.op.equals("call")) {
            Map<Binding, Object> inner = new HashMap<>();
            for (int i = 0; i < p.size(); i++) {
                inner.put(n.def.bindings.get(i), p.get(i));
            }
            return nestedOf(n.def.body, inner, spanOut);
        }
        Object r = primitive(n.op, p);
        if (makes(n.op)) {
            pay(count(r, 10000));
        } else if (Set.of("sum", "max", "min").contains(n.op)) {
            pay(list(p.get(0)).size());
        }
        return r;
    }

    private Object nestedEach(Node n, Map<Binding, Object> env, int[] spanOut) {
        List<List<?>> s = new ArrayList<>();
        for (Node part : n.parts) {
            s.add(list(nestedOf(part, env, spanOut)));
        }
        for (List<?> one : s) {
            unless(one.size() == s.get(0).size(), 3);
        }
        int best = 0;
        List<Object> r = new ArrayList<>();
        for (int i = 0; i < s.get(0).size(); i++) {
            Map<Binding, Object> inner = new HashMap<>(env);
            for (int j = 0; j < s.size(); j++) {
                inner.put(n.genBindings.get(j), s.get(j).get(i));
            }
            int[] here = new int[1];
            if (n.guard == null || num(nestedOf(n.guard, inner, here)) != 0) {
                r.add(nestedOf(n.body, inner, here));
            }
            best = Math.max(best, here[0]);
        }
        spanOut[0] += best;
        pay(count(r, 10000));
        return r;
    }

    // ---- flat

    void runFlat() {
        steps = 0;
        cells = 0;
        most = 0;
        flatEnd = 0;
        try {
            Value v = flatOf(root, new LinkedHashMap<>(), 1);
            flatText = show(unlane(v, 0));
        } catch (Ending e) {
            flatEnd = e.code;
        }
    }

    private void step(int n) {
        unless(steps + 1 <= 2000 && cells + n <= 6000, 8);
        steps++;
        cells += n;
    }

    private static int extent(Value v) {
        return v == null ? 0 : v.row.length + extent(v.items);
    }

    /** What stands in a lane, as a number or a list. */
    private static Object unlane(Value v, int lane) {
        if (v.items == null) {
            return v.row[lane];
        }
        int from = 0;
        for (int i = 0; i < lane; i++) {
            from += v.row[i];
        }
        List<Object> r = new ArrayList<>();
        for (int i = 0; i < v.row[lane]; i++) {
            r.add(unlane(v.items, from + i));
        }
        return r;
    }

    private static List<Object> unlane(Value v) {
        List<Object> all = new ArrayList<>();
        int[] from = new int[4];
        for (int i = 0; i < v.row.length; i++) {
            all.add(take(v, from, 0));
        }
        return all;
    }

    private static Object take(Value v, int[] from, int level) {
        int x = v.row[from[level]++];
        if (v.items == null) {
            return x;
        }
        List<Object> r = new ArrayList<>();
        for (int i = 0; i < x; i++) {
            r.add(take(v.items, from, level + 1));
        }
        return r;
    }

    /** A STEP whose VALUE has these in its lanes. */
    private Value sealed(List<Object> lanes, int depth) {
        int extent = lanes.size();
        for (Object o : lanes) {
            extent = Math.min(20000, extent + count(o, 10000));
        }
        step(extent);
        return lane(lanes, depth);
    }

    private static Value lane(List<Object> lanes, int depth) {
        int[] row = new int[lanes.size()];
        List<Object> items = new ArrayList<>();
        for (int i = 0; i < row.length; i++) {
            row[i] = depth == 0 ? num(lanes.get(i)) : list(lanes.get(i)).size();
            if (depth > 0) {
                items.addAll(list(lanes.get(i)));
            }
        }
        return new Value(row, depth == 0 ? null : lane(items, depth - 1));
    }

    private static void namesOf(Node n, Set<Binding> into) {
        if (n == null) {
            return;
        }
        if (n.op.equals("name")) {
            into.add(n.binding);
        }
        for (Node p : n.parts) {
            namesOf(p, into);
        }
        namesOf(n.guard, into);
        namesOf(n.body, into);
    }

    /** The variables that are used, each lane as often as times tells. */
    private LinkedHashMap<Binding, Value> carried(LinkedHashMap<Binding, Value> env, Set<Binding> used, int[] times) {
        LinkedHashMap<Binding, Value> r = new LinkedHashMap<>();
        for (Map.Entry<Binding, Value> e : env.entrySet()) {
            if (used.contains(e.getKey())) {
                List<Object> before = unlane(e.getValue());
                List<Object> after = new ArrayList<>();
                for (int i = 0; i < times.length; i++) {
                    after.addAll(Collections.nCopies(times[i], before.get(i)));
                }
                r.put(e.getKey(), sealed(after, e.getKey().depth));
            }
        }
        return r;
    }

    private Value flatOf(Node n, LinkedHashMap<Binding, Value> env, int lanes) {
        step(0);
        most = Math.max(most, lanes);
        switch (n.op) {
            case "number":
                return sealed(new ArrayList<Object>(Collections.nCopies(lanes, n.value)), 0);
            case "name":
                return env.get(n.binding);
            case "let": {
                LinkedHashMap<Binding, Value> inner = new LinkedHashMap<>(env);
                inner.put(n.binding, flatOf(n.parts.get(0), env, lanes));
                return flatOf(n.parts.get(1), inner, lanes);
            }
            case "if":
                return flatIf(n, env, lanes);
            case "each":
                return flatEach(n, env, lanes);
            default:
        }
        List<Value> p = new ArrayList<>();
        for (Node part : n.parts) {
            p.add(flatOf(part, env, lanes));
        }
        if (n.op.equals("call")) {
            LinkedHashMap<Binding, Value> inner = new LinkedHashMap<>();
            for (int i = 0; i < p.size(); i++) {
                inner.put(n.def.bindings.get(i), p.get(i));
            }
            return flatOf(n.def.body, inner, lanes);
        }
        return flatPrimitive(n, p, lanes);
    }

    private Value flatPrimitive(Node n, List<Value> p, int lanes) {
        List<List<Object>> parts = new ArrayList<>();
        for (Value v : p) {
            parts.add(unlane(v));
        }
        int first = 0;
        List<Object> r = new ArrayList<>();
        for (int lane = 0; lane < lanes; lane++) {
            List<Object> here = new ArrayList<>();
            for (List<Object> part : parts) {
                here.add(part.get(lane));
            }
            try {
                r.add(primitive(n.op, here));
            } catch (Ending e) {
                first = first == 0 ? e.code : first;
                r.add(n.depth == 0 ? (Object) 0 : List.of());
            }
        }
        Value v = sealed(r, n.depth);
        unless(first == 0, first);
        return v;
    }

    private Value flatIf(Node n, LinkedHashMap<Binding, Value> env, int lanes) {
        int[] c = flatOf(n.parts.get(0), env, lanes).row;
        List<List<Object>> sides = new ArrayList<>();
        for (int side = 0; side < 2; side++) {
            int[] times = new int[lanes];
            int many = 0;
            for (int i = 0; i < lanes; i++) {
                times[i] = (c[i] != 0) == (side == 0) ? 1 : 0;
                many += times[i];
            }
            Set<Binding> used = new HashSet<>();
            namesOf(n.parts.get(1 + side), used);
            LinkedHashMap<Binding, Value> inner = carried(env, used, times);
            sides.add(unlane(flatOf(n.parts.get(1 + side), inner, many)));
        }
        List<Object> r = new ArrayList<>();
        for (int i = 0; i < lanes; i++) {
            r.add(sides.get(c[i] != 0 ? 0 : 1).remove(0));
        }
        return sealed(r, n.depth);
    }

    private Value flatEach(Node n, LinkedHashMap<Binding, Value> env, int lanes) {
        List<Value> s = new ArrayList<>();
        for (Node part : n.parts) {
            s.add(flatOf(part, env, lanes));
        }
        for (Value v : s) {
            unless(java.util.Arrays.equals(v.row, s.get(0).row), 3);
        }
        int[] lengths = s.get(0).row;
        Set<Binding> used = new HashSet<>();
        namesOf(n.guard, used);
        namesOf(n.body, used);
        LinkedHashMap<Binding, Value> inner = carried(env, used, lengths);
        for (int i = 0; i < s.size(); i++) {
            inner.put(n.genBindings.get(i), s.get(i).items);
        }
        int many = s.get(0).items.row.length;
        if (n.guard == null) {
            return new Value(lengths, flatOf(n.body, inner, many));
        }
        int[] c = flatOf(n.guard, inner, many).row;
        int[] times = new int[many];
        int[] shorter = new int[lanes];
        int left = 0;
        int place = 0;
        for (int lane = 0; lane < lanes; lane++) {
            for (int i = 0; i < lengths[lane]; i++) {
                times[place] = c[place] != 0 ? 1 : 0;
                shorter[lane] += times[place];
                left += times[place];
                place++;
            }
        }
        Set<Binding> usedByBody = new HashSet<>();
        namesOf(n.body, usedByBody);
        LinkedHashMap<Binding, Value> kept = carried(inner, usedByBody, times);
        step(lanes);
        return new Value(shorter, flatOf(n.body, kept, left));
    }

    int alike() {
        if (nestedEnd >= 7 || flatEnd >= 7) {
            return -4;
        }
        if (nestedEnd != 0 && flatEnd != 0) {
            return 2;
        }
        return nestedEnd == 0 && flatEnd == 0 && nestedText.equals(flatText) ? 1 : 0;
    }
}
