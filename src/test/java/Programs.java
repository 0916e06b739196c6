import java.util.ArrayList;
import java.util.List;
import java.util.Random;

/** Programs made by chance, mostly right ones, with names and types that fit. */
final class Programs {
    private record Variable(String name, int depth) {
    }

    private record Function(String name, List<Integer> params, int depth) {
    }

    private static final String[] NAMES = {"x", "y", "z", "a", "b", "int", "w1", "longname", "s"};
    private static final String[] ANY = {"(", ")", "{", "}", "[", "]", ",", ":", ";", "|", "=", "<", "+", "-", "*", "/",
        "%", "#", "def", "let", "in", "if", "then", "else", "iota", "dist", "sum", "max", "min", "scan", "rev", "cat",
        "flat", "pack", "perm", "part", "x", "y", "int", "0", "7", "1234567890", "abcdefghi", "A", "."};

    private final Random random;
    private final List<Function> functions = new ArrayList<>();
    private final StringBuilder out = new StringBuilder();
    private final boolean wild;
    private final boolean heavy;
    private int budget;

    Programs(long seed) {
        random = new Random(seed);
        wild = random.nextInt(3) == 0;
        heavy = random.nextInt(4) == 0;
    }

    String make() {
        int size = random.nextInt(4) == 0 ? 150 : 40;
        int defs = random.nextInt(3) == 0 ? 0 : random.nextInt(4);
        for (int i = 0; i < defs; i++) {
            budget = size / 3;
            definition(i);
        }
        budget = size;
        expression(random.nextInt(4), 0, new ArrayList<>());
        return out.toString();
    }

    private void definition(int i) {
        Function f = new Function(wild && chance(20) ? "f0" : "f" + i, new ArrayList<>(), random.nextInt(3));
        List<Variable> scope = new ArrayList<>();
        say("def");
        say(f.name);
        say("(");
        int params = random.nextInt(4);
        for (int j = 0; j < params; j++) {
            if (j > 0) {
                say(",");
            }
            Variable v = new Variable(wild && chance(30) ? "p0" : "p" + j, wild && chance(60) ? 4 : random.nextInt(3));
            say(v.name);
            say(":");
            say("[".repeat(v.depth) + "int" + "]".repeat(v.depth));
            f.params.add(v.depth);
            scope.add(v);
        }
        say(")");
        say("=");
        expression(f.depth, 0, scope);
        say(";");
        functions.add(f);
    }

    private boolean chance(int oneIn) {
        return random.nextInt(oneIn) == 0;
    }

    private void say(String s) {
        if (out.length() > 0 && (Character.isLetterOrDigit(out.charAt(out.length() - 1)) || chance(4))) {
            out.append(chance(9) ? "\n" : " ");
        }
        out.append(s);
    }

    private void number() {
        if (heavy && chance(2)) {
            say("" + 10 * (1 + random.nextInt(8)));
            return;
        }
        int pick = random.nextInt(40);
        say(pick == 0 ? "200" : pick == 1 ? "201" : pick == 2 ? "999999999" : pick == 3 ? "60" : "" + random.nextInt(5));
    }

    private static List<Variable> with(List<Variable> scope, Variable v) {
        List<Variable> wider = new ArrayList<>(scope);
        wider.removeIf(o -> o.name.equals(v.name));
        wider.add(v);
        return wider;
    }

    private boolean variable(int depth, List<Variable> scope) {
        List<Variable> fit = scope.stream().filter(v -> v.depth == depth).toList();
        if (fit.isEmpty()) {
            return false;
        }
        say(fit.get(random.nextInt(fit.size())).name);
        return true;
    }

    private void leaf(int depth, int inside, List<Variable> scope) {
        if (!chance(4) && variable(depth, scope)) {
            return;
        }
        if (depth == 0) {
            number();
            return;
        }
        if (depth == 1 && chance(2)) {
            say("iota");
            say("(");
            number();
            say(")");
            return;
        }
        say("[");
        int n = 1 + random.nextInt(3);
        for (int i = 0; i < n; i++) {
            if (i > 0) {
                say(",");
            }
            leaf(depth - 1, inside + 1, scope);
        }
        say("]");
    }

    private void parens(int depth, int inside, List<Variable> scope) {
        say("(");
        expression(depth, inside + 1, scope);
        say(")");
    }

    private void expression(int wantedDepth, int inside, List<Variable> scope) {
        int depth = wild && chance(60) ? random.nextInt(4) : wantedDepth;
        budget--;
        if (wild && chance(80)) {
            say(NAMES[random.nextInt(NAMES.length)]);
            return;
        }
        if (budget <= 0 || inside > 7 || chance(6)) {
            leaf(depth, inside, scope);
            return;
        }
        switch (random.nextInt(10)) {
            case 0 -> {
                say("let");
                String name = NAMES[random.nextInt(NAMES.length)];
                say(name);
                say("=");
                int d = random.nextInt(3);
                expression(d, inside + 1, scope);
                say("in");
                expression(depth, inside + 1, with(scope, new Variable(name, d)));
            }
            case 1 -> {
                say("if");
                expression(0, inside + 1, scope);
                say("then");
                expression(depth, inside + 1, scope);
                say("else");
                expression(depth, inside + 1, scope);
            }
            case 2 -> call(depth, inside, scope);
            case 3 -> {
                if (depth < 3) {
                    parens(depth + 1, inside, scope);
                    say("[");
                    expression(0, inside + 1, scope);
                    say("]");
                } else {
                    leaf(depth, inside, scope);
                }
            }
            default -> {
                if (depth == 0) {
                    numeric(inside, scope);
                } else {
                    sequence(depth, inside, scope);
                }
            }
        }
    }

    private void call(int depth, int inside, List<Variable> scope) {
        List<Function> fit = functions.stream().filter(f -> f.depth == depth).toList();
        if (fit.isEmpty()) {
            leaf(depth, inside, scope);
            return;
        }
        Function f = fit.get(random.nextInt(fit.size()));
        say(f.name);
        say("(");
        String mark = "";
        for (int d : f.params) {
            if (!mark.isEmpty()) {
                say(mark);
            }
            expression(Math.min(d, 3), inside + 1, scope);
            mark = ",";
        }
        if (wild && chance(20)) {
            say(",");
            expression(0, inside + 1, scope);
        }
        say(")");
    }

    private void numeric(int inside, List<Variable> scope) {
        switch (random.nextInt(6)) {
            case 0 -> {
                say("#");
                parens(1 + random.nextInt(3), inside + 1, scope);
            }
            case 1 -> unaryCall(new String[] {"sum", "max", "min"}[random.nextInt(3)], 1, inside, scope);
            default -> {
                String[] ops = {"+", "-", "*", "/", "%", "<", "="};
                operand(inside, scope);
                say(ops[random.nextInt(chance(3) ? 7 : 3)]);
                operand(inside, scope);
            }
        }
    }

    private void operand(int inside, List<Variable> scope) {
        if (chance(2)) {
            leaf(0, inside, scope);
        } else {
            parens(0, inside, scope);
        }
    }

    private void unaryCall(String word, int depth, int inside, List<Variable> scope) {
        say(word);
        say("(");
        expression(depth, inside + 1, scope);
        say(")");
    }

    private void binaryCall(String word, int a, int b, int inside, List<Variable> scope) {
        say(word);
        say("(");
        expression(a, inside + 1, scope);
        say(",");
        expression(b, inside + 1, scope);
        say(")");
    }

    private void sequence(int depth, int inside, List<Variable> scope) {
        switch (random.nextInt(16)) {
            case 0 -> binaryCall("dist", depth - 1, 0, inside, scope);
            case 1 -> unaryCall("rev", depth, inside, scope);
            case 2 -> binaryCall("cat", depth, depth, inside, scope);
            case 3 -> {
                if (depth < 3) {
                    unaryCall("flat", depth + 1, inside, scope);
                } else {
                    leaf(depth, inside, scope);
                }
            }
            case 4 -> matched("pack", depth, inside, scope);
            case 5 -> matched("perm", depth, inside, scope);
            case 6 -> {
                if (depth > 1) {
                    parted(depth, inside, scope);
                } else {
                    unaryCall("scan", 1, inside, scope);
                }
            }
            case 7 -> {
                say("[");
                int n = 1 + random.nextInt(3);
                for (int i = 0; i < n; i++) {
                    if (i > 0) {
                        say(",");
                    }
                    expression(depth - 1, inside + 1, scope);
                }
                say("]");
            }
            case 8 -> {
                if (depth == 1) {
                    unaryCall("iota", 0, inside, scope);
                } else {
                    leaf(depth, inside, scope);
                }
            }
            default -> each(depth, inside, scope);
        }
    }

    /** pack and perm of a sequence with as many flags or wishes, mostly. */
    private void matched(String word, int depth, int inside, List<Variable> scope) {
        if (chance(4)) {
            binaryCall(word, depth, 1, inside, scope);
            return;
        }
        say("let");
        say("m");
        say("=");
        expression(depth, inside + 1, scope);
        say("in");
        say(word);
        say("(m,");
        if (word.equals("perm")) {
            say(chance(2) ? "rev(iota(#m))" : "{(i+1)%#m:i in iota(#m)}");
        } else {
            say(chance(2) ? "{i%2:i in iota(#m)}" : "{i<2:i in iota(#m)}");
        }
        say(")");
    }

    private void parted(int depth, int inside, List<Variable> scope) {
        if (chance(4)) {
            binaryCall("part", depth - 1, 1, inside, scope);
            return;
        }
        say("let");
        say("m");
        say("=");
        expression(depth - 1, inside + 1, scope);
        say("in part(m,");
        say(chance(3) ? "[0,#m]" : chance(2) ? "dist(1,#m)" : "[#m/2,#m-#m/2,0]");
        say(")");
    }

    private void each(int depth, int inside, List<Variable> scope) {
        int gens = chance(3) ? 1 + random.nextInt(3) : 1;
        List<Integer> depths = new ArrayList<>();
        List<Variable> inner = scope;
        List<String> names = new ArrayList<>();
        for (int i = 0; i < gens; i++) {
            depths.add(random.nextInt(gens > 1 ? 1 : 3));
            String name = NAMES[random.nextInt(NAMES.length)];
            while (names.contains(name) && !(wild && chance(4))) {
                name = NAMES[random.nextInt(NAMES.length)];
            }
            names.add(name);
            inner = with(inner, new Variable(name, depths.get(i)));
        }
        say("{");
        expression(depth - 1, inside + 1, inner);
        say(":");
        String size = "" + random.nextInt(4);
        for (int i = 0; i < gens; i++) {
            if (i > 0) {
                say(",");
            }
            say(names.get(i));
            say("in");
            if (gens > 1 && !chance(5)) {
                say(chance(2) ? "iota(" + size + ")" : "dist(" + random.nextInt(9) + "," + size + ")");
            } else {
                expression(depths.get(i) + 1, inside + 1, scope);
            }
        }
        if (chance(3)) {
            say("|");
            expression(0, inside + 1, inner);
        }
        say("}");
    }

    /** The text with a few tokens or bytes changed, so that there is a fault in most cases. */
    String spoil(String text) {
        StringBuilder sb = new StringBuilder(text);
        int changes = 1 + random.nextInt(2);
        for (int i = 0; i < changes && sb.length() > 0; i++) {
            int p = random.nextInt(sb.length());
            String any = ANY[random.nextInt(ANY.length)];
            switch (random.nextInt(5)) {
                case 0 -> sb.deleteCharAt(p);
                case 1 -> sb.insert(p, any);
                case 2 -> sb.replace(p, p + 1, any);
                case 3 -> sb.setLength(p);
                default -> sb.insert(p, " " + any + " ");
            }
        }
        return sb.toString();
    }
}
