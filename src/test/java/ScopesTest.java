/**
 * "A variable is told by the innermost let, GEN, PARAM of its NAME around it", and in the flat run its VALUE is
 * the one of the LANES that a part has: within an if and a { }, and behind them again.
 */
public final class ScopesTest {
    // What may stand in a part, and what comes of it where x is 0, 1, 2.
    private static final String[] PARTS = {
        "x", "0,1,2",
        "x+1", "1,2,3",
        "1+x", "1,2,3",
        "2*x-x", "0,1,2",
        "(x<1)", "1,0,0",
        "(1=x)", "0,1,0",
        "#iota(x)", "0,1,2",
        "[5,6,7][x]", "5,6,7",
        "[x,x+1][1]", "1,2,3",
        "sum([x,x])", "0,2,4",
        "max([x,1])", "1,1,2",
        "min([x,1])", "0,1,1",
        "sum(scan([x,9]))", "0,1,2",
        "rev([8,x])[0]", "0,1,2",
        "cat([8],[x])[1]", "0,1,2",
        "flat([[8],[x]])[1]", "0,1,2",
        "pack([8,x],[0,1])[0]", "0,1,2",
        "#pack([8,9],[x,1])", "1,2,2",
        "perm([8,x],[1,0])[0]", "0,1,2",
        "part([8,x],[1,1])[1][0]", "0,1,2",
        "dist(x,2)[1]", "0,1,2",
        "#dist(8,x)", "0,1,2",
        "f(x)", "0,10,20",
        "f(f(x)+x)", "0,110,220",
        "(let k=1 in x)", "0,1,2",
        "(let k=x in k+k)", "0,2,4",
        "(let x=x+1 in x)", "1,2,3",
        "(if x<2 then x else 9)", "0,1,9",
        "(if 0 then 9 else x)", "0,1,2",
        "(if x then 1 else x)", "0,1,1",
        "{x:k in[1]}[0]", "0,1,2",
        "{k:k in[8,x]}[1]", "0,1,2",
        "{k+x:k in[1,2]}[1]", "2,3,4",
        "sum({k*x:k in[1,2]|k=2})", "0,2,4",
        "#{k:k in[1,2]|x}", "0,2,2",
        "sum({x:x in iota(x+1)})", "0,1,3",
        "n+x", "7,8,9",
        "n", "7,7,7",
        "s[x]", "4,5,6",
        "#s", "3,3,3",
        "sum({s[x]+k+n:k in s})", "48,51,54"};
    private static final String AHEAD = "def f(q:int)=q*10; let n=7 in let s=[4,5,6] in ";

    public static void main(String[] args) {
        for (int i = 0; i < PARTS.length; i += 2) {
            inEachPart(PARTS[i], PARTS[i + 1].split(","));
        }
        behindThem();
        gensWithVariables();
        whichOne();
        manyDefs();
        Check.end();
    }

    private static void comes(String text, String due) {
        Edge.comes(AHEAD + text, due);
    }

    private static void inEachPart(String part, String[] due) {
        String one = due[1];
        String two = due[2];
        comes("{" + part + ":x in[0,1,2]}", "[" + due[0] + "," + one + "," + two + "]");
        comes("{if x then " + part + " else 99:x in[1,0,2]}", "[" + one + ",99," + two + "]");
        comes("{if 1-x then 99 else " + part + ":x in[0,1,0]}", "[99," + one + ",99]");
        comes("{if x=0 then 99 else " + part + ":x in[2,0,1]}", "[" + two + ",99," + one + "]");
        comes("{if " + part + "=" + two + " then 8 else 9:x in[2,2]}", "[8,8]");
        comes("{" + part + ":x in[0,1,2]|x}", "[" + one + "," + two + "]");
        comes("{" + part + ":x in[2,1,0]|1-x<1}", "[" + two + "," + one + "]");
        comes("{{" + part + ":y in iota(x)}:x in[0,1,2]}", "[[],[" + one + "],[" + two + "," + two + "]]");
        comes("{{" + part + ":y in iota(x)|y}:x in[0,1,2]}", "[[],[],[" + two + "]]");
        comes("{{" + part + ":x in[x,2]}:x in[1,0]}",
            "[[" + one + "," + two + "],[" + due[0] + "," + two + "]]");
        comes("{let x=x+1 in " + part + ":x in[0,1]}", "[" + one + "," + two + "]");
        comes("{#{y:y in[5,6]|" + part + "=" + one + "}:x in[1,1]}", "[2,2]");
        comes("{g:g in{" + part + ":x in[0,2]}}", "[" + due[0] + "," + two + "]");
        comes("let x=2 in " + part, two);
        comes("let x=1 in if x then " + part + " else 99", one);
        comes("let x=1 in {" + part + ":y in[1,2]|y=2}", "[" + one + "]");
    }

    /** Behind an if and a { } a variable has its LANES again. */
    private static void behindThem() {
        comes("{(if x then x else 5)*10+x:x in[0,1,2]}", "[50,11,22]");
        comes("{(if x then 5 else x)*10+x:x in[1,0,2]}", "[51,0,52]");
        comes("{#{x:y in iota(x)}*10+x:x in[2,0,1]}", "[22,0,11]");
        comes("{#{x:y in iota(3)|x}*10+x:x in[0,1,2]}", "[0,31,32]");
        comes("{sum({x+y:y in iota(x)|y})*10+x:x in[0,2,3]}", "[0,32,93]");
        comes("{(if x then #{x:y in iota(x)} else x)*10+x:x in[2,0,1]}", "[22,0,11]");
        comes("{sum({if y then x else y:y in iota(3)})*10+x:x in[2,0,1]}", "[42,0,21]");
        comes("{sum(r)+#{r:y in r}*10+sum(r)*100:r in[[1],iota(0),[2,3]]}", "[111,0,525]");
        comes("{[#{k:k in r|s[0]-4},sum(r),n]:r in[[1],[2,3]]}", "[[0,1,7],[0,5,7]]");
        comes("[#{n:x in s},n,#{n+x:x in s|x},n]", "[3,7,3,7]");
    }

    /** A GEN's part may have variables of its own; they are none any more in the other parts. */
    private static void gensWithVariables() {
        comes("{x+y:x in(let t=[1,2]in t),y in{z:z in[3,4]}}", "[4,6]");
        comes("{x+y:x in(let t=[1,2]in t),y in{z:z in[3,4]}|y=4}", "[6]");
        comes("{x*y:x in{x+1:x in s},y in{y-1:y in s|y}}", "[15,24,35]");
        comes("{{x+y:y in(let q=r in rev(q))}:x in[10,20],r in[[1,2],[3]]}", "[[12,11],[23]]");
        comes("{if x then y else 0:x in(let t=[1,0]in t),y in(let t=[3,4]in let u=t in u)}", "[3,0]");
        Edge.faults("{t:x in(let t=[1]in t)}", Edge.NAMED, 1);
        Edge.faults("{1:x in(let t=[1]in t)|t}", Edge.NAMED, 23);
        Edge.faults("{1:x in(let t=[1]in t),y in t}", Edge.NAMED, 28);
    }

    private static void whichOne() {
        comes("let x=1 in let x=2 in x", "2");
        comes("let x=1 in (let x=2 in x)*10+x", "21");
        comes("let x=[1,2] in {x:x in x}", "[1,2]");
        comes("let x=3 in {{x:x in[x,x]}:x in[x,x+1]}", "[[3,3],[4,4]]");
        comes("let x=3 in {x:y in[1]}", "[3]");
        comes("let n=1 in {n:n in[2]|n=2}", "[2]");
        comes("let q=5 in f(q+1)+q", "65");
        Edge.comes("def f(x:int)=let y=x in y;def g(y:int)=f(y)*10+y;let x=1 in g(x+1)", "22");
    }

    private static String def(int d, String last) {
        return "def d" + (char) ('a' + d) + "(a:int,b:int,c:int,d:int,e:int," + last + ")=a;";
    }

    private static String defs(int n) {
        StringBuilder text = new StringBuilder();
        for (int d = 0; d < n; d++) {
            text.append(def(d, "f:int"));
        }
        return text.toString();
    }

    /** Twelve DEFS with six PARAMS each: the last PARAM of the last DEF counts like the first one. */
    private static void manyDefs() {
        String eleven = defs(11);
        int at = eleven.length() + "def dl(a:int,b:int,c:int,d:int,e:int,".length();
        Edge.reads(eleven + def(11, "f:int") + "1", 13);
        Edge.faults(eleven + def(11, "a:int") + "1", Edge.NAMED, at);
        Edge.faults(eleven + def(11, "e:int") + "1", Edge.NAMED, at);
        Edge.faults(eleven + def(11, "f:[[[[int]]]]") + "1", Edge.TYPED, at);
        Edge.reads(eleven + def(11, "f:[int]") + "dl(1,2,3,4,5,[6])", 12 + 8);
        String whole = eleven + def(11, "f:[int]");
        Edge.faults(whole + "dl(1,2,3,4,5,6)", Edge.TYPED, whole.length());
        Edge.faults(whole + "dk(1,2,3,4,5,[6])", Edge.TYPED, whole.length());
        Edge.comes(eleven + "def dl(a:int,b:int,c:int,d:int,e:int,f:[int])=[a,b,c,d,e,sum(f)];"
            + "[dl(1,2,3,4,5,[6]),dl(6,5,4,3,2,[1]),[da(7,1,1,1,1,1),dk(8,1,1,1,1,1)]]", "[[1,2,3,4,5,6],[6,5,4,3,2,1],[7,8]]");
    }
}
