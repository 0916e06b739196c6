/** The limits of the grammar, and THE FAULT with its PLACE in each of its cases. */
public final class TextEdgesTest {
    private static final int SYNTAX = Edge.SYNTAX, NAMED = Edge.NAMED, TYPED = Edge.TYPED;

    public static void main(String[] args) {
        twelveWithinOneAnother();
        thirteenthOfAnyKind();
        twelveInEachPart();
        whatDoesNotLieWithin();
        twelveDefs();
        sixParams();
        fourGens();
        nodes200();
        nodeBeyond200();
        placeOfTheEnd();
        syntaxAheadOfAll();
        firstSyntaxFault();
        namedDefsAndParams();
        namedVariables();
        namedCalls();
        namedGens();
        typedParams();
        orderOfDefs();
        orderOfParts();
        orderOfEach();
        Check.end();
    }

    /** The text with twelve of them is read, with thirteen it is a fault at the thirteenth. */
    private static void twelve(String ahead, String open, int sign, String core, String close, int nodes) {
        Edge.reads(ahead + open.repeat(12) + core + close.repeat(12), nodes);
        Edge.faults(ahead + open.repeat(13) + core + close.repeat(13), SYNTAX, ahead.length() + 12 * open.length() + sign);
    }

    /** "At most 12 of let, if, #, ( of an EXPR or EXPRS, [ and { lie within one another (a thirteenth is a FAULT" */
    private static void twelveWithinOneAnother() {
        twelve("", "(", 0, "1", ")", 1);
        twelve("", "let x=1 in ", 0, "1", "", 25);
        twelve("", "if 1 then 2 else ", 0, "3", "", 37);
        twelve("def f(x:int)=x;", "f(", 1, "1", ")", 14);
    }

    private static void thirteenthOfAnyKind() {
        String[] thirteenth = {"let y=1 in 1", "if 1 then 1 else 1", "#[1]", "(1)", "[1]", "{1:y in 1}"};
        for (String text : thirteenth) {
            String eleven = "(".repeat(11) + text + ")".repeat(11);
            NestedVectors x = Check.fresh(eleven);
            x.read();
            // #[1] has two of them already.
            Check.due("fault() of " + eleven, x.fault() == SYNTAX ? 1 : 0, text.startsWith("#") ? 1 : 0);
            Edge.faults("(".repeat(12) + text + ")".repeat(12), SYNTAX, 12);
        }
        String[] called = {"f(1)", "iota(1)", "dist(1,1)", "sum(1)", "max(1)", "min(1)", "scan(1)", "rev(1)",
            "cat(1,1)", "flat(1)", "pack(1,1)", "perm(1,1)", "part(1,1)", "f()"};
        for (String text : called) {
            Edge.faults("(".repeat(12) + text + ")".repeat(12), SYNTAX, 12 + text.indexOf('('));
            NestedVectors x = Check.fresh("(".repeat(11) + text + ")".repeat(11));
            x.read();
            Check.due("fault() of 11 ( and " + text, x.fault() == SYNTAX ? 1 : 0, 0);
        }
        Edge.faults("(".repeat(12) + "x[1]" + ")".repeat(12), SYNTAX, 13);
        Edge.faults("(".repeat(11) + "x[1]" + ")".repeat(11), NAMED, 11);
        Edge.faults("#".repeat(12) + "1", TYPED, 11);
        Edge.faults("#".repeat(13) + "1", SYNTAX, 12);
        Edge.faults("[".repeat(12) + "1" + "]".repeat(12), TYPED, 8);
        Edge.faults("[".repeat(13) + "1" + "]".repeat(13), SYNTAX, 12);
        // A thirteenth comes ahead of what else is wrong behind it.
        Edge.faults("(".repeat(13) + "$", SYNTAX, 12);
        Edge.faults("(".repeat(12) + "$", SYNTAX, 12);
        Edge.faults("(".repeat(12), SYNTAX, 12);
    }

    /** Each part of each of them lies within it: "what stands behind the in of a let, behind then and else ..., too" */
    private static void twelveInEachPart() {
        String p = "def f(s:[int])=";
        twelve("", "let x=", 0, "1", " in 1", 25);
        twelve("", "if ", 0, "1", " then 1 else 1", 37);
        twelve("", "if 1 then ", 0, "1", " else 1", 37);
        parts(p, "s[", 1, "0", "]", 25);
        parts(p, "{1:x in ", 0, "s", "}", 25);
        parts(p, "{1:x in s,y in ", 0, "s", "}", 37);
        parts(p, "{", 0, "s[0]", ":x in s}[0]", -1);
        parts(p, "{1:x in s|", 0, "0", "}[0]", 61);
        parts(p, "rev(", 3, "s", ")", 13);
        parts(p, "cat(s,", 3, "s", ")", 25);
        // [ and ( in turn: six and six.
        Edge.reads("sum([".repeat(6) + "1" + "])".repeat(6), 13);
        Edge.faults("sum([".repeat(6) + "(1)" + "])".repeat(6), SYNTAX, 30);
        Edge.faults("sum([".repeat(6) + "#x" + "])".repeat(6), SYNTAX, 30);
        Edge.reads("{" + "(".repeat(11) + "1" + ")".repeat(11) + ":x in" + "(".repeat(10) + "[1]" + ")".repeat(10) + "|"
            + "(".repeat(11) + "1" + ")".repeat(11) + "}", 5);
        Edge.faults("{" + "(".repeat(12) + "1" + ")".repeat(12) + ":x in[1]}", SYNTAX, 12);
        Edge.faults("{1:x in" + "(".repeat(12) + "1" + ")".repeat(12) + "}", SYNTAX, 18);
        Edge.faults("{1:x in[1]|" + "(".repeat(12) + "1" + ")".repeat(12) + "}", SYNTAX, 22);
    }

    /** In the EXPR of a DEF, which ends with ; and is followed by a 1; -1: the last one needs one more itself. */
    private static void parts(String ahead, String open, int sign, String core, String close, int nodes) {
        int most = nodes < 0 ? 11 : 12;
        String last = ahead + open.repeat(most) + core + close.repeat(most) + ";1";
        NestedVectors x = Check.fresh(last);
        int got = x.read();
        Check.due("fault() of " + last, x.fault(), 0);
        if (nodes > 0) {
            Check.due("read() of " + last, got, nodes + 1);
        }
        Edge.faults(ahead + open.repeat(13) + core + close.repeat(13) + ";1", SYNTAX, ahead.length() + 12 * open.length() + sign);
    }

    /** The ( of PARAMS, what stands behind one another, and the [ behind an ITEM do not lie within. */
    private static void whatDoesNotLieWithin() {
        String deep = "(".repeat(12) + "1" + ")".repeat(12);
        Edge.reads("def f(x:int)=" + deep + ";" + deep, 2);
        Edge.reads(deep + "+" + deep + "*" + deep, 5);
        Edge.reads("(".repeat(11) + "(1)+(1)" + ")".repeat(11), 3);
        Edge.reads("(".repeat(11) + "[1][0]" + ")".repeat(11), 4);
        Edge.reads("def f(s:[[[int]]])=" + "(".repeat(11) + "s[0][0][0]" + ")".repeat(11) + ";1", 8);
        Edge.reads("if " + deep.substring(1, 24) + " then " + deep.substring(1, 24) + " else " + deep.substring(1, 24), 4);
        // The [ of a TYPE is one of them as well; it is too deep as a TYPE long before.
        Edge.faults("def f(x:" + "[".repeat(12) + "int" + "]".repeat(12) + ")=1;1", TYPED, 6);
        Edge.faults("def f(x:" + "[".repeat(13) + "int" + "]".repeat(13) + ")=1;1", SYNTAX, 20);
    }

    private static String defs(int n) {
        StringBuilder text = new StringBuilder();
        for (int i = 0; i < n; i++) {
            text.append("def d").append(i).append("()=1;");
        }
        return text.toString();
    }

    /** "At most 12 DEFS": one more "(its def)". */
    private static void twelveDefs() {
        for (int n = 0; n <= 12; n++) {
            Edge.reads(defs(n) + "1", n + 1);
            NestedVectors x = Check.program(defs(n) + "1");
            Check.due("about(1) of " + n + " DEFS", x.about(1), n);
        }
        int place = defs(12).length();
        Edge.faults(defs(13) + "1", SYNTAX, place);
        Edge.faults(defs(12) + "  def", SYNTAX, place + 2);
        Edge.faults(defs(12) + "def 1", SYNTAX, place);
        Edge.faults(defs(11) + "def", SYNTAX, defs(11).length() + 3);
        Edge.faults(defs(14) + "1", SYNTAX, place);
        NestedVectors x = Check.program(defs(12) + "d0()+d11()");
        Check.due("nested() of 12 DEFS", x.nested(), 0);
        Check.due("the first and the last of 12 DEFS", Check.text(x, false), "2");
    }

    private static String params(int n) {
        StringBuilder text = new StringBuilder("def f(");
        for (int i = 0; i < n; i++) {
            text.append(i > 0 ? "," : "").append("p").append(i).append(":int");
        }
        return text.toString();
    }

    /** "6 PARAMS": one more "(its NAME)". */
    private static void sixParams() {
        String[] parts = {"", "1", "1,2", "1,2,3", "1,2,3,4", "1,2,3,4,5", "1,2,3,4,5,6"};
        for (int n = 0; n <= 6; n++) {
            Edge.reads(params(n) + ")=1;f(" + parts[n] + ")", n + 2);
        }
        int place = params(6).length() + 1;
        Edge.faults(params(7) + ")=1;1", SYNTAX, place);
        Edge.faults(params(8) + ")=1;1", SYNTAX, place);
        Edge.faults(params(6) + ",)=1;1", SYNTAX, place);
        Edge.faults(params(6) + ", p6", SYNTAX, place + 1);
        Edge.faults(params(6) + " p6", SYNTAX, place);
        Edge.comes(params(6) + ")=p0-p5*10;f(1,2,3,4,5,6)", "-59");
        // Each DEF has its own six.
        Edge.reads(params(6) + ")=1;" + "def g" + params(6).substring(5) + ")=1;1", 3);
    }

    private static String gens(int n) {
        StringBuilder text = new StringBuilder("{1:");
        for (int i = 0; i < n; i++) {
            text.append(i > 0 ? "," : "").append("g").append(i).append(" in[2]");
        }
        return text.toString();
    }

    /** "4 GENS": one more "(its NAME)". */
    private static void fourGens() {
        for (int n = 1; n <= 4; n++) {
            Edge.reads(gens(n) + "}", 2 + 2 * n);
            Edge.reads(gens(n) + "|1}", 3 + 2 * n);
        }
        int place = gens(4).length() + 1;
        Edge.faults(gens(5) + "}", SYNTAX, place);
        Edge.faults(gens(6) + "}", SYNTAX, place);
        Edge.faults(gens(4) + ", g4", SYNTAX, place + 1);
        Edge.faults(gens(4) + ",}", SYNTAX, place);
        Edge.faults("{1:}", SYNTAX, 3);
        Edge.comes("{a+b*10+c*100+d*1000:a in[1],b in[2],c in[3],d in[4]}", "[4321]");
        // Each { } has its own four.
        Edge.reads("[#" + gens(4) + "},#" + gens(4) + "}]", 23);
        Edge.reads("{#" + gens(4) + "}:" + gens(4).substring(3) + "}", 20);
    }

    /** "200 NODES", DEFS' too. */
    private static void nodes200() {
        Edge.reads("1" + "+1".repeat(99), 199);
        Edge.reads("[1" + ",1".repeat(198) + "]", 200);
        Edge.faults("[1" + ",1".repeat(199) + "]", SYNTAX, 399);
        Edge.reads("def f()=1" + "+1".repeat(49) + ";1" + "+1".repeat(49) + "+f()", 99 + 99 + 2);
        Edge.faults("def f()=1" + "+1".repeat(49) + ";1" + "+1".repeat(49) + "+f()+1", SYNTAX, 8 + 99 + 1 + 99 + 4);
        NestedVectors x = Check.program("[1" + ",1".repeat(198) + "]");
        Check.due("node(199, 0)", x.node(199, 0), 397);
        Check.due("node(200, 0)", x.node(200, 0), Edge.NONE);
        Check.due("nested() of 200 NODES", x.nested(), 0);
        Check.due("WORK of 200 NODES", x.meter(0), 200 + 199);
        Check.due("flat() of 200 NODES", x.flat(), 0);
        Check.due("alike() of 200 NODES", x.alike(), 1);
        // All in DEFS: what is not called is a NODE as well.
        Edge.reads("def f()=[1" + ",1".repeat(197) + "];1", 200);
        Edge.faults("def f()=[1" + ",1".repeat(198) + "];1", SYNTAX, 8 + 1 + 397 + 2);
    }

    /** "a NODE (its PLACE) more than there may be": each kind as the 201st. */
    private static void nodeBeyond200() {
        String most = "[1" + ",1".repeat(198);
        String[] kinds = {"1", "x", "let y=1 in 1", "if 1 then 1 else 1", "#x", "f()", "iota(1)", "[1]", "{1:y in[1]}", "(1)", "((x))"};
        for (String kind : kinds) {
            int inside = kind.startsWith("(") ? kind.lastIndexOf('(') + 1 : 0;
            Edge.faults(most + "," + kind + "]", SYNTAX, most.length() + 1 + inside);
        }
        for (String sign : "+ - * / % < =".split(" ")) {
            Edge.faults(most + sign + "1]", SYNTAX, most.length());
        }
        Edge.faults(most + "[1]]", SYNTAX, most.length());
        Edge.faults(most + "][1]", SYNTAX, most.length() + 1);
        Edge.faults(most + ",$]", SYNTAX, most.length() + 1);
        Edge.faults(most + ",1 $", SYNTAX, most.length() + 1);
        Edge.faults(most + " $", SYNTAX, most.length() + 1);
        Edge.faults(most, SYNTAX, most.length());
    }

    /** "(the end: how many bytes there are)" */
    private static void placeOfTheEnd() {
        Edge.faults("", SYNTAX, 0);
        Edge.faults("1+", SYNTAX, 2);
        Edge.faults("1+ \n ", SYNTAX, 5);
        Edge.faults("def f()=1;\n", SYNTAX, 11);
        Edge.faults("(1", SYNTAX, 2);
        Edge.faults("let x=1 in ", SYNTAX, 11);
        Edge.faults("1+" + " ".repeat(1198), SYNTAX, 1200);
    }

    /** "Only if there is none": a SYNTAX fault anywhere comes ahead of all others. */
    private static void syntaxAheadOfAll() {
        Edge.faults("x + y + )", SYNTAX, 8);
        Edge.faults("#1 + [1] $", SYNTAX, 9);
        Edge.faults("def f(a:int,a:int)=1; def f()=x; #1 1", SYNTAX, 36);
        Edge.faults("def f(a:[[[[int]]]])=1; 1 1", SYNTAX, 26);
        Edge.faults("{x:x in 1,x in 2}}", SYNTAX, 17);
        Edge.faults("x" + "+x".repeat(100), SYNTAX, 200);
        Edge.faults("x" + "+x".repeat(99), NAMED, 0);
    }

    private static void firstSyntaxFault() {
        Edge.faults("1 $ )", SYNTAX, 2);
        Edge.faults("1 ) $", SYNTAX, 2);
        Edge.faults("1) 1234567890", SYNTAX, 1);
        Edge.faults("1+1234567890 )", SYNTAX, 2);
        Edge.faults("1 abcdefghi", SYNTAX, 2);
    }

    /** "a DEF's NAME that is one already, a PARAM's that its DEF has already" */
    private static void namedDefsAndParams() {
        Edge.reads("def f()=1; def g()=1; 1", 3);
        Edge.faults("def f()=1; def f()=1; 1", NAMED, 15);
        Edge.faults("def f()=1; def g()=1; def h()=1; def g()=1; 1", NAMED, 37);
        Edge.faults("def f()=1; def f(x:[[[[int]]]])=y; z", NAMED, 15);
        Edge.reads("def f(a:int,b:int)=1; 1", 2);
        Edge.faults("def f(a:int,a:int)=1; 1", NAMED, 12);
        Edge.faults("def f(a:int,b:int,c:int,d:int,e:int,a:int)=1; 1", NAMED, 36);
        Edge.faults("def f(a:int,b:int,b:int,a:int)=1; 1", NAMED, 18);
        // Another DEF's PARAM, a DEF's own NAME, a variable's: all free.
        Edge.reads("def f(a:int)=a; def g(a:int,f:int)=f; let f=1 in f(f)", 6);
    }

    /** "a variable ... that is none": where a variable is one, and where it is none any more. */
    private static void namedVariables() {
        Edge.faults("x", NAMED, 0);
        Edge.reads("let x=1 in x", 3);
        Edge.faults("let x=x in 1", NAMED, 6);
        Edge.faults("(let x=1 in x)+x", NAMED, 15);
        Edge.faults("if (let x=1 in x) then x else 1", NAMED, 23);
        Edge.reads("def f(x:int)=x; 1", 2);
        Edge.faults("def f(x:int)=1; x", NAMED, 16);
        Edge.faults("def f(x:int)=1; def g()=x; 1", NAMED, 24);
        Edge.faults("def f()=x; let x=1 in f()", NAMED, 8);
        Edge.faults("def f()=1; f", NAMED, 11);
        Edge.reads("{x:x in[1]|x}", 5);
        Edge.faults("{1:x in x}", NAMED, 8);
        Edge.faults("{1:x in[1],y in x}", NAMED, 16);
        Edge.faults("{1:y in x,x in[1]}", NAMED, 8);
        Edge.faults("{1:x in[1]}[x]", NAMED, 12);
        Edge.comes("let x=[5] in {x:x in x}", "[5]");
        Edge.comes("let x=1 in let x=x+1 in x", "2");
        Edge.comes("let x=1 in (let x=2 in x)*10+x", "21");
        Edge.comes("let x=1 in {x+{x:x in[7]}[0]:x in[3,4]}", "[10,11]");
        Edge.comes("def f(x:int)=let x=x*2 in {x:x in[x,x+1]}; f(5)", "[10,11]");
        Edge.comes("def f(y:int)=y; let x=3 in {f(x):y in[x]|y}", "[3]");
    }

    /** "a called NAME that is none", behind its parts; "A DEF may call those before it." */
    private static void namedCalls() {
        Edge.faults("f()", NAMED, 0);
        Edge.faults("let f=1 in f()", NAMED, 11);
        Edge.faults("def f()=f(); 1", NAMED, 8);
        Edge.faults("def f()=g(); def g()=1; 1", NAMED, 8);
        Edge.reads("def g()=1; def f()=g(); f()", 3);
        Edge.faults("f(x)", NAMED, 2);
        Edge.faults("f(#1)", TYPED, 2);
        Edge.faults("f(1)+#1", NAMED, 0);
        Edge.faults("int(1)", NAMED, 0);
    }

    /** "a GEN's NAME that an earlier one of the { } has (at the later one; behind all GENS' parts)" */
    private static void namedGens() {
        Edge.reads("{1:x in[1],y in[1]}", 6);
        Edge.faults("{1:x in[1],x in[1]}", NAMED, 11);
        Edge.faults("{1:a in[1],b in[1],c in[1],a in[1]}", NAMED, 27);
        Edge.faults("{1:a in[1],b in[1],b in[1],a in[1]}", NAMED, 19);
        Edge.faults("{1:x in[1],x in[1],y in z}", NAMED, 24);
        Edge.faults("{1:x in[1],x in[1],y in #1}", TYPED, 24);
        Edge.faults("{1:x in[1],x in 1}", NAMED, 11);
        Edge.reads("{{x:x in[1]}:x in[1]}", 7);
        Edge.reads("let x=1 in{x:x in[1]}", 6);
    }

    /** "a PARAM's TYPE that is more than 3 deep (at its NAME)" */
    private static void typedParams() {
        for (int depth = 0; depth <= 3; depth++) {
            Edge.reads("def f(x:" + "[".repeat(depth) + "int" + "]".repeat(depth) + ")=x;1", 2);
            NestedVectors x = Check.program("def f(x:" + "[".repeat(depth) + "int" + "]".repeat(depth) + ")=x;1");
            Check.due("node(0, 1) of a PARAM of depth " + depth, x.node(0, 1), depth);
        }
        for (int depth = 4; depth <= 12; depth++) {
            Edge.faults("def f(x:" + "[".repeat(depth) + "int" + "]".repeat(depth) + ")=1;1", TYPED, 6);
        }
        Edge.faults("def f(y:int, x:[[[[int]]]])=1;1", TYPED, 13);
    }

    /** "DEFS (of each its NAME, its PARAMS, its EXPR) and the EXPR are looked at in order" */
    private static void orderOfDefs() {
        Edge.faults("def f(x:int)=y; def f(x:int,x:int)=1; z", NAMED, 13);
        Edge.faults("def f()=1; def f(x:int,x:int)=z; w", NAMED, 15);
        Edge.faults("def f(x:int,x:int)=z; w", NAMED, 12);
        Edge.faults("def f(x:[[[[int]]]],x:int)=z; w", TYPED, 6);
        Edge.faults("def f(x:int,x:[[[[int]]]])=z; w", NAMED, 12);
        Edge.faults("def f(x:[[[[int]]]])=z; w", TYPED, 6);
        Edge.faults("def f()=z; w", NAMED, 8);
        Edge.faults("def f()=#1; w", TYPED, 8);
        Edge.faults("def f()=1; w", NAMED, 11);
    }

    /** "of each NODE its parts (in the order in which they stand ...) ahead of itself" */
    private static void orderOfParts() {
        Edge.faults("#1+x", TYPED, 0);
        Edge.faults("x+#1", NAMED, 0);
        Edge.faults("[1]+x", NAMED, 4);
        Edge.faults("[1]+[1]*[1]", TYPED, 7);
        Edge.faults("[1]*[1]+[1]", TYPED, 3);
        Edge.faults("1[x]", NAMED, 2);
        Edge.faults("1[0][x]", TYPED, 1);
        Edge.faults("let x=#1 in y", TYPED, 6);
        Edge.faults("let x=1 in [y,#1]", NAMED, 12);
        Edge.faults("if [1] then x else #1", NAMED, 12);
        Edge.faults("if [1] then 1 else #1", TYPED, 19);
        Edge.faults("if #1 then x else 1", TYPED, 3);
        Edge.faults("if [1] then 1 else 1", TYPED, 0);
        Edge.faults("[1,[1],x]", NAMED, 7);
        Edge.faults("iota(1,x)", NAMED, 7);
        Edge.faults("def f(a:int)=a; f([1],x)", NAMED, 22);
        Edge.faults("def f(a:int)=a; f([1],1)", TYPED, 16);
    }

    /** "GENS ahead of the part behind | , and this ahead of that ahead of :", and what is behind GENS' parts. */
    private static void orderOfEach() {
        // The body stands first and is looked at last.
        Edge.faults("{u:x in v|w}", NAMED, 8);
        Edge.faults("{u:x in[1]|w}", NAMED, 11);
        Edge.faults("{u:x in[1]|x}", NAMED, 1);
        Edge.faults("{#1:x in[1]|#1}", TYPED, 12);
        Edge.faults("{u:x in[1]|[1]}", NAMED, 1);
        Edge.faults("{1:x in[1]|[1]}", TYPED, 0);
        Edge.faults("{[[[1]]]:x in[1]|w}", NAMED, 17);
        Edge.faults("{[[[1]]]:x in[1]|1}", TYPED, 0);
        // All GENS' parts, then their NAMES, then whether they are sequences, then the rest.
        Edge.faults("{u:x in 1,x in v|w}", NAMED, 15);
        Edge.faults("{u:x in 1,x in 2|w}", NAMED, 10);
        Edge.faults("{u:x in 1,y in 2|w}", TYPED, 0);
        Edge.faults("{u:x in[1],y in 2|w}", TYPED, 0);
        Edge.faults("{u:x in 1,y in[2]|w}", TYPED, 0);
        Edge.faults("{u:x in[1],y in[2]|w}", NAMED, 19);
    }
}
