/**
 * TYPES, in full: each NODE with parts of each DEPTH, and calls with too few and too many parts. "TYPED: a NODE
 * whose parts are not as many, not of the TYPES told, or that would be more than 3 deep."
 */
public final class TypesTest {
    // The variables a, b, c, d have the DEPTHS 0 to 3.
    private static final String AHEAD = "def t(a:int,b:[int],c:[[int]],d:[[[int]]])=";
    private static final String VARIABLES = "abcd";
    private static final int WRONG = -1;

    public static void main(String[] args) {
        operators();
        itemsAndLengths();
        choices();
        lets();
        rows();
        reservedWords();
        calls();
        each();
        programs();
        Check.end();
    }

    private static char variable(int depth) {
        return VARIABLES.charAt(depth);
    }

    /** The NODE at that place of the text has that DEPTH, or is the fault. */
    private static void typed(String text, int at, int depth) {
        String whole = AHEAD + text + ";0";
        int place = AHEAD.length() + at;
        NestedVectors x = Check.fresh(whole);
        int got = x.read();
        if (depth == WRONG) {
            Check.due("read() of " + text, got, -100 - place);
            Check.due("fault() of " + text, x.fault(), Edge.TYPED);
            Check.due("about(2) of " + text, x.about(2), Edge.STATE);
            return;
        }
        Check.due("fault() of " + text, x.fault(), 0);
        int k = 0;
        while (x.node(k, 0) >= 0 && x.node(k, 0) != place) {
            k++;
        }
        Check.due("the PLACE of a NODE of " + text, x.node(k, 0), place);
        Check.due("its DEPTH in " + text, x.node(k, 1), depth);
    }

    /** "+ - * / %, < = of numbers" */
    private static void operators() {
        for (String sign : "+ - * / % < =".split(" ")) {
            for (int s = 0; s < 4; s++) {
                for (int t = 0; t < 4; t++) {
                    typed("" + variable(s) + sign + variable(t), 1, s == 0 && t == 0 ? 0 : WRONG);
                }
            }
        }
    }

    private static void itemsAndLengths() {
        for (int s = 0; s < 4; s++) {
            typed("#" + variable(s), 0, s > 0 ? 0 : WRONG);
            for (int i = 0; i < 4; i++) {
                typed(variable(s) + "[" + variable(i) + "]", 1, s > 0 && i == 0 ? s - 1 : WRONG);
            }
        }
        typed("d[0][0][0]", 7, 0);
        typed("d[0][0][0][0]", 10, WRONG);
        typed("##b", 0, WRONG);
    }

    private static void choices() {
        for (int c = 0; c < 4; c++) {
            for (int s = 0; s < 4; s++) {
                for (int t = 0; t < 4; t++) {
                    String text = "if " + variable(c) + " then " + variable(s) + " else " + variable(t);
                    typed(text, 0, c == 0 && s == t ? s : WRONG);
                }
            }
        }
    }

    private static void lets() {
        for (int s = 0; s < 4; s++) {
            for (int t = 0; t < 4; t++) {
                typed("let x=" + variable(s) + " in " + variable(t), 0, t);
            }
            typed("let x=" + variable(s) + " in x", 0, s);
            typed("let x=" + variable(s) + " in x", 11, s);
        }
    }

    /** "[ .. ]: a sequence of parts of one TYPE", 3 deep at most. */
    private static void rows() {
        for (int s = 0; s < 4; s++) {
            typed("[" + variable(s) + "]", 0, s < 3 ? s + 1 : WRONG);
            for (int t = 0; t < 4; t++) {
                boolean fits = s == t && s < 3;
                typed("[" + variable(s) + "," + variable(t) + "]", 0, fits ? s + 1 : WRONG);
                typed("[" + variable(s) + "," + variable(s) + "," + variable(t) + "]", 0, fits ? s + 1 : WRONG);
                typed("[" + variable(t) + "," + variable(s) + "," + variable(s) + "]", 0, fits ? s + 1 : WRONG);
            }
        }
    }

    private static int one(String word, int s) {
        switch (word) {
            case "iota":
                return s == 0 ? 1 : WRONG;
            case "sum":
            case "max":
            case "min":
                return s == 1 ? 0 : WRONG;
            case "scan":
                return s == 1 ? 1 : WRONG;
            case "rev":
                return s > 0 ? s : WRONG;
            case "flat":
                return s > 1 ? s - 1 : WRONG;
            default:
                return WRONG;
        }
    }

    private static int two(String word, int s, int t) {
        switch (word) {
            case "dist":
                return t == 0 && s < 3 ? s + 1 : WRONG;
            case "cat":
                return s > 0 && s == t ? s : WRONG;
            case "pack":
            case "perm":
                return s > 0 && t == 1 ? s : WRONG;
            case "part":
                return (s == 1 || s == 2) && t == 1 ? s + 1 : WRONG;
            default:
                return WRONG;
        }
    }

    private static void reservedWords() {
        for (String word : "iota dist sum max min scan rev cat flat pack perm part".split(" ")) {
            typed(word + "()", 0, WRONG);
            for (int s = 0; s < 4; s++) {
                typed(word + "(" + variable(s) + ")", 0, one(word, s));
                for (int t = 0; t < 4; t++) {
                    typed(word + "(" + variable(s) + "," + variable(t) + ")", 0, two(word, s, t));
                    typed(word + "(" + variable(s) + "," + variable(t) + ",a)", 0, WRONG);
                    typed(word + "(" + variable(s) + "," + variable(t) + ",b)", 0, WRONG);
                }
            }
        }
    }

    /** "f(..): a DEF's EXPR, its PARAMS being the parts (as many, of these TYPES)" */
    private static void calls() {
        String[] types = {"int", "[int]", "[[int]]", "[[[int]]]"};
        for (int param = 0; param < 4; param++) {
            for (int part = 0; part < 4; part++) {
                String def = "def f(p:" + types[param] + ")=p; ";
                String text = AHEAD + "f(" + variable(part) + ");0";
                NestedVectors x = Check.fresh(def + text);
                int due = param == part ? 4 : -100 - def.length() - AHEAD.length();
                Check.due("read() of " + def + text, x.read(), due);
                Check.due("fault() of " + def + text, x.fault(), param == part ? 0 : Edge.TYPED);
                Check.due("node(1, 1) of " + def + text, x.node(1, 1), param == part ? param : Edge.STATE);
            }
        }
        String[] parts = {"", "1", "1,1", "1,1,1", "1,1,1,1", "1,1,1,1,1", "1,1,1,1,1,1", "1,1,1,1,1,1,1"};
        String[] params = {"", "p:int", "p:int,q:int", "p:int,q:int,r:int", "p:int,q:int,r:int,s:int",
            "p:int,q:int,r:int,s:int,t:int", "p:int,q:int,r:int,s:int,t:int,u:int"};
        for (int n = 0; n < params.length; n++) {
            for (int given = 0; given < parts.length; given++) {
                String def = "def f(" + params[n] + ")=[7]; ";
                NestedVectors x = Check.fresh(def + "f(" + parts[given] + ")");
                Check.due("read() of " + def + parts[given], x.read(), n == given ? 3 + n : -100 - def.length());
                Check.due("fault() of " + def + parts[given], x.fault(), n == given ? 0 : Edge.TYPED);
            }
        }
        // The second PARAM's TYPE counts like the first one's.
        Edge.reads("def f(p:int,q:[int])=p; f(1,[1])", 5);
        Edge.faults("def f(p:int,q:[int])=p; f(1,1)", Edge.TYPED, 24);
        Edge.faults("def f(p:int,q:[int])=p; f([1],1)", Edge.TYPED, 24);
        Edge.faults("def f(p:int,q:[int])=p; f([1],[1])", Edge.TYPED, 24);
    }

    /** "{ b : x in s, .. | c }: s .. are sequences", c a number, 3 deep at most; x is an item. */
    private static void each() {
        for (int s = 0; s < 4; s++) {
            typed("{a:x in " + variable(s) + "}", 0, s > 0 ? 1 : WRONG);
            typed("{a:x in b,y in " + variable(s) + "}", 0, s > 0 ? 1 : WRONG);
            typed("{a:x in " + variable(s) + ",y in b}", 0, s > 0 ? 1 : WRONG);
            typed("{a:x in b,y in b,z in " + variable(s) + ",w in b}", 0, s > 0 ? 1 : WRONG);
            typed("{a:x in b,y in b,z in b,w in " + variable(s) + "}", 0, s > 0 ? 1 : WRONG);
            typed("{" + variable(s) + ":x in b}", 0, s < 3 ? s + 1 : WRONG);
            typed("{" + variable(s) + ":x in b|a}", 0, s < 3 ? s + 1 : WRONG);
            typed("{a:x in b|" + variable(s) + "}", 0, s == 0 ? 1 : WRONG);
            if (s > 0) {
                typed("{x:x in " + variable(s) + "}", 1, s - 1);
                typed("{x:x in " + variable(s) + "}", 0, s);
                typed("{y:x in b,y in " + variable(s) + "}", 0, s);
                typed("{a:x in " + variable(s) + "|x}", 0, s == 1 ? 1 : WRONG);
            }
        }
        typed("{{{a:x in b}:x in b}:x in b}", 0, 3);
        typed("{{{{a:x in b}:x in b}:x in b}:x in b}", 0, WRONG);
    }

    /** about(2): "DEPTH of the PROGRAM's TYPE", 0 to 3. */
    private static void programs() {
        String[] texts = {"1", "[1]", "[[1]]", "[[[1]]]"};
        for (int depth = 0; depth < 4; depth++) {
            NestedVectors x = Check.program("def f()=" + texts[3 - depth] + "; " + texts[depth]);
            Check.due("about(2) of " + texts[depth], x.about(2), depth);
            NestedVectors y = Check.program("def f()=" + texts[depth] + "; f()");
            Check.due("about(2) of f() of " + texts[depth], y.about(2), depth);
        }
        Edge.faults("[[[[1]]]]", Edge.TYPED, 0);
        Edge.faults("[[[[[1]]]]]", Edge.TYPED, 1);
    }
}
