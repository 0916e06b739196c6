/** Promises 4 and 5: read and fault. */
public final class ReadTest {
    private static final int SYNTAX = 1, NAMED = 2, TYPED = 3;

    public static void main(String[] args) {
        takesThePlace();
        faultKeepsTheTape();
        tokens();
        grammar();
        nesting();
        counts();
        named();
        typed();
        order();
        Check.end();
    }

    private static void right(String text, int nodes) {
        NestedVectors x = Check.fresh(text);
        Check.due("read() of " + text, x.read(), nodes);
        Check.due("fault() of " + text, x.fault(), 0);
        Check.due("about(3) behind a read of " + text, x.about(3), 0);
    }

    private static void wrong(String text, int kind, int place) {
        NestedVectors x = Check.fresh(text);
        Check.due("read() of " + text, x.read(), -100 - place);
        Check.due("fault() of " + text, x.fault(), kind);
        Check.due("about(3) behind a fault of " + text, x.about(3), text.length());
        Check.due("about(0) behind a fault of " + text, x.about(0), NestedVectors.STATE);
    }

    private static void takesThePlace() {
        NestedVectors x = Check.program("1+2");
        x.nested();
        x.flat();
        Check.feed(x, "[7]");
        Check.due("the tape of the next program", x.about(3), 3);
        Check.due("the run stays till the next read", x.meter(0), 3);
        Check.due("read() of [7]", x.read(), 2);
        Check.due("about(2) of [7]", x.about(2), 1);
        Check.due("no nested run any more", x.meter(0), NestedVectors.STATE);
        Check.due("no flat run any more", x.meter(2), NestedVectors.STATE);
        Check.due("nothing shown any more", x.shown(false), NestedVectors.STATE);
        Check.due("nothing shown flat any more", x.shown(true), NestedVectors.STATE);
        Check.due("nothing alike any more", x.alike(), NestedVectors.STATE);
        Check.due("read() of an empty tape", x.read(), -100);
        Check.due("fault() of an empty tape", x.fault(), SYNTAX);
        Check.due("no program any more", x.about(2), NestedVectors.STATE);
        Check.due("no nested run of none", x.nested(), NestedVectors.STATE);
        Check.due("no flat run of none", x.flat(), NestedVectors.STATE);
    }

    private static void faultKeepsTheTape() {
        NestedVectors x = Check.program("1");
        x.nested();
        x.flat();
        Check.feed(x, "1+)");
        Check.due("read() of 1+)", x.read(), -102);
        Check.due("meter(0) behind a fault", x.meter(0), NestedVectors.STATE);
        Check.due("meter(3) behind a fault", x.meter(3), NestedVectors.STATE);
        Check.due("node(0, 0) behind a fault", x.node(0, 0), NestedVectors.STATE);
        Check.due("read() once more", x.read(), -102);
        Check.due("cut(2)", x.cut(2), 1);
        Check.due("fault() stays", x.fault(), SYNTAX);
        Check.due("feed", x.feed('x'), 3);
        Check.due("read() of 1+x", x.read(), -102);
        Check.due("fault() of 1+x", x.fault(), NAMED);
        Check.due("cut(2) again", x.cut(2), 1);
        Check.due("feed of a number", x.feed('4'), 3);
        Check.due("read() of 1+4", x.read(), 3);
        Check.due("fault() of 1+4", x.fault(), 0);
    }

    private static void tokens() {
        right("999999999", 1);
        wrong("1000000000", SYNTAX, 0);
        wrong("1+0000000001", SYNTAX, 2);
        right("let abcdefgh=1 in abcdefgh", 3);
        wrong("let abcdefghi=1 in 2", SYNTAX, 4);
        wrong("let x=1 in a2345678b", SYNTAX, 11);
        right("let a2345678=1 in a2345678", 3);
        right("let x=1in x", 3);
        wrong("letx=1 in x", SYNTAX, 7);
        wrong("12ab", SYNTAX, 2);
        right(" \n 1\n+ 2 ", 3);
        wrong("1 +\t2", SYNTAX, 3);
        wrong("1 \r", SYNTAX, 2);
        wrong("X", SYNTAX, 0);
        wrong("1.5", SYNTAX, 1);
        wrong("1\u00ff", SYNTAX, 1);
        wrong("\u0080", SYNTAX, 0);
        wrong("1 _", SYNTAX, 2);
        wrong("", SYNTAX, 0);
        wrong("   ", SYNTAX, 3);
        wrong("1 +  ", SYNTAX, 5);
        right("let int=1 in int", 3);
        wrong("let in=1 in 2", SYNTAX, 4);
        wrong("sum", SYNTAX, 3);
        wrong("def", SYNTAX, 3);
        wrong("let iota=1 in 2", SYNTAX, 4);
    }

    private static void grammar() {
        right("def f()=1; f()", 2);
        right("def f(a:int,b:[int],c:[[[int]]])=a; f(1,[2],[[[3]]])", 9);
        wrong("def f(a:[int)=1; 2", SYNTAX, 12);
        wrong("def f(a:num)=1; 2", SYNTAX, 8);
        wrong("def f(a:1)=1; 2", SYNTAX, 8);
        wrong("def f(a:int,)=1; 2", SYNTAX, 12);
        wrong("def f(a)=1; 2", SYNTAX, 7);
        wrong("def f=1; 2", SYNTAX, 5);
        wrong("def 1()=1; 2", SYNTAX, 4);
        wrong("def f()=1 2", SYNTAX, 10);
        wrong("def f()=1;", SYNTAX, 10);
        wrong("1; 2", SYNTAX, 1);
        wrong("1 def f()=1;", SYNTAX, 2);
        right("1<2", 3);
        wrong("1<2<3", SYNTAX, 3);
        wrong("1=2=3", SYNTAX, 3);
        right("(1=2)=3", 5);
        right("1=2+3*4", 7);
        wrong("1+let x=1 in x", SYNTAX, 2);
        right("1+(let x=1 in x)", 5);
        wrong("1+if 1 then 2 else 3", SYNTAX, 2);
        right("if 1 then 2 else 3+4", 6);
        wrong("if 1 then 2", SYNTAX, 11);
        wrong("if 1 2", SYNTAX, 5);
        wrong("let x=1", SYNTAX, 7);
        wrong("let 1=1 in 1", SYNTAX, 4);
        wrong("let x 1", SYNTAX, 6);
        wrong("-1", SYNTAX, 0);
        wrong("1 2", SYNTAX, 2);
        right("#[[1]][0]", 6);
        wrong("[]", SYNTAX, 1);
        wrong("[1,]", SYNTAX, 3);
        wrong("[1", SYNTAX, 2);
        wrong("[1]]", SYNTAX, 3);
        wrong("[1][]", SYNTAX, 4);
        right("[[1]][0][0]", 7);
        right("(([1]))[0]", 4);
        wrong("()", SYNTAX, 1);
        wrong("(1", SYNTAX, 2);
        wrong("iota(1", SYNTAX, 6);
        wrong("iota(1,)", SYNTAX, 7);
        wrong("iota 1", SYNTAX, 5);
        wrong("def(1)", SYNTAX, 3);
        wrong("in(1)", SYNTAX, 0);
        right("{x:x in[1]}", 4);
        right("{x:x in[1]|x}", 5);
        right("{x+y:x in[1],y in[2]|x}", 9);
        wrong("{x:}", SYNTAX, 3);
        wrong("{:x in [1]}", SYNTAX, 1);
        wrong("{x}", SYNTAX, 2);
        wrong("{x:x in [1],}", SYNTAX, 12);
        wrong("{x:x in [1]|}", SYNTAX, 12);
        wrong("{x:x in [1]|1|1}", SYNTAX, 13);
        wrong("{x:1 in [1]}", SYNTAX, 3);
        wrong("{x:x=[1]}", SYNTAX, 4);
        wrong("{x:x in [1]", SYNTAX, 11);
    }

    private static void nesting() {
        within("(", "1", ")", 0, 1);
        within("let x=1 in ", "1", "", 0, 25);
        within("let x=", "1", " in 1", 0, 25);
        within("if 1 then 2 else ", "1", "", 0, 37);
        within("if 1 then ", "1", " else 3", 0, 37);
        within("if ", "1", " then 2 else 3", 0, 37);
        within("a[", "0", "]", 1, -100);
        within("f(", "1", ")", 1, -122);
        within("{b:x in ", "1", "}", 0, -188);
        right("sum([".repeat(6) + "1" + "])".repeat(6), 13);
        wrong("sum([".repeat(7) + "1" + "])".repeat(7), SYNTAX, 33);
        // # and ( lie within one another as well.
        right("#(((((((((([1]))))))))))", 3);
        wrong("#".repeat(13) + "1", SYNTAX, 12);
        wrong("#".repeat(12) + "[1]", SYNTAX, 12);
        wrong("#".repeat(12) + "1", TYPED, 11);
        wrong("#".repeat(12) + "x[1]", SYNTAX, 13);
        wrong("(".repeat(12) + "#[1]", SYNTAX, 12);
        wrong("(".repeat(12) + "iota(1)", SYNTAX, 16);
        wrong("(".repeat(12) + "f()", SYNTAX, 13);
        wrong("(".repeat(12) + "{1:x in[1]}", SYNTAX, 12);
        wrong("(".repeat(12) + "let x=1 in 1", SYNTAX, 12);
        wrong("(".repeat(12) + "if 1 then 1 else 1", SYNTAX, 12);
        right("(".repeat(12) + "1" + ")".repeat(12) + "+" + "(".repeat(12) + "1" + ")".repeat(12), 3);
        right("[[[1]]][0][0][0]", 10);
        right("def f(x:int)=" + "(".repeat(12) + "x" + ")".repeat(12) + ";" + "(".repeat(11) + "f(1)" + ")".repeat(11), 3);
        wrong("def f(x:" + "[".repeat(12) + "int" + "]".repeat(12) + ")=1;1", TYPED, 6);
        wrong("def f(x:" + "[".repeat(13) + "int" + "]".repeat(13) + ")=1;1", SYNTAX, 20);
        wrong("def f(x:" + "[".repeat(13), SYNTAX, 20);
    }

    /** Twelve of them give that answer; the thirteenth is a fault at that offset in it. */
    private static void within(String open, String core, String close, int offset, int answer) {
        String text = open.repeat(12) + core + close.repeat(12);
        Check.due("read() of " + text, Check.fresh(text).read(), answer);
        wrong(open.repeat(13) + core + close.repeat(13), SYNTAX, 12 * open.length() + offset);
    }

    private static void counts() {
        StringBuilder defs = new StringBuilder();
        for (int i = 0; i < 12; i++) {
            defs.append("def f").append(i).append("()=1;");
        }
        right(defs + "1", 13);
        wrong(defs + "def f12()=1;1", SYNTAX, defs.length());
        wrong(defs + "def", SYNTAX, defs.length());
        right("def f(a:int,b:int,c:int,d:int,e:int,g:int)=g;1", 2);
        wrong("def f(a:int,b:int,c:int,d:int,e:int,g:int,h:int)=g;1", SYNTAX, 42);
        wrong("def f(a:int,b:int,c:int,d:int,e:int,g:int,1:int)=g;1", SYNTAX, 42);
        right("{1:a in[1],b in[1],c in[1],d in[1]}", 10);
        wrong("{1:a in[1],b in[1],c in[1],d in[1],e in[1]}", SYNTAX, 35);
        wrong("{1:a in[1],b in[1],c in[1],d in[1],}", SYNTAX, 35);
        right("1" + "+1".repeat(99), 199);
        wrong("1" + "+1".repeat(100), SYNTAX, 200);
        right("[1" + ",1".repeat(198) + "]", 200);
        wrong("[1" + ",1".repeat(199) + "]", SYNTAX, 399);
        right("#[1" + ",1".repeat(197) + "]", 200);
        wrong("#[1" + ",1".repeat(197) + "]+1", SYNTAX, 398);
        wrong("[1" + ",1".repeat(198) + "][0]", SYNTAX, 399);
        wrong("[1" + ",1".repeat(197) + ",iota(1)]", SYNTAX, 402);
        wrong("[1" + ",1".repeat(198) + ",x]", SYNTAX, 399);
        wrong("[1" + ",1".repeat(198) + ",f()]", SYNTAX, 399);
        wrong("[1" + ",1".repeat(198) + ",[1]]", SYNTAX, 399);
        wrong("[1" + ",1".repeat(198) + ",{1:x in[1]}]", SYNTAX, 399);
        wrong("[1" + ",1".repeat(198) + ",let x=1 in 1]", SYNTAX, 399);
        wrong("[1" + ",1".repeat(198) + ",if 1 then 1 else 1]", SYNTAX, 399);
        wrong("[1" + ",1".repeat(198) + ",#[1]]", SYNTAX, 399);
        right("def f()=[1" + ",1".repeat(196) + "];#f()", 200);
    }

    private static void named() {
        wrong("x", NAMED, 0);
        wrong("1+x", NAMED, 2);
        wrong("f(1)", NAMED, 0);
        wrong("f(x)", NAMED, 2);
        wrong("def f(x:int)=x; f", NAMED, 16);
        wrong("let x=x in 1", NAMED, 6);
        wrong("(let x=1 in 2)+x", NAMED, 15);
        right("let x=1 in let x=x+1 in x", 7);
        wrong("def f(x:int)=y; 1", NAMED, 13);
        wrong("def f()=f(); 1", NAMED, 8);
        wrong("def f()=g(); def g()=1; 1", NAMED, 8);
        right("def g()=1; def f()=g(); f()", 3);
        wrong("let y=1 in {x:x in y2}", NAMED, 19);
        wrong("{x:x in x}", NAMED, 8);
        wrong("{1:x in [1],y in x}", NAMED, 17);
        wrong("{1:x in [1]|y}", NAMED, 12);
        wrong("{y:x in [1]}", NAMED, 1);
        wrong("{y:x in [1]|z}", NAMED, 12);
        wrong("{x:x in [1]}[x]", NAMED, 13);
        wrong("def f()=1; def g()=1; def f()=1; 1", NAMED, 26);
        wrong("def f(a:int,b:int,a:int)=1; 1", NAMED, 18);
        right("def f(f:int)=f; f(1)", 3);
        right("def f(x:int)=x; let f=2 in f(f)", 5);
        wrong("let x=1 in def", SYNTAX, 11);
        wrong("def f()=x; let x=1 in f()", NAMED, 8);
    }

    private static void typed() {
        wrong("[1]+1", TYPED, 3);
        wrong("1+[1]", TYPED, 1);
        wrong("[1]<[1]", TYPED, 3);
        wrong("[1]=[1]", TYPED, 3);
        wrong("#1", TYPED, 0);
        wrong("1[0]", TYPED, 1);
        wrong("[1][[0]]", TYPED, 3);
        wrong("[1,[1]]", TYPED, 0);
        right("[[[1]]]", 4);
        wrong("[[[[1]]]]", TYPED, 0);
        wrong("if [1] then 1 else 2", TYPED, 0);
        wrong("if 1 then [1] else 2", TYPED, 0);
        right("if 1 then [1] else [2]", 6);
        wrong("iota([1])", TYPED, 0);
        wrong("iota()", TYPED, 0);
        wrong("iota(1,2)", TYPED, 0);
        wrong("dist(1)", TYPED, 0);
        wrong("dist(1,[1])", TYPED, 0);
        wrong("dist([[[1]]],1)", TYPED, 0);
        right("dist([[1]],1)", 5);
        wrong("sum(1)", TYPED, 0);
        wrong("sum([[1]])", TYPED, 0);
        wrong("sum()", TYPED, 0);
        wrong("max([[1]])", TYPED, 0);
        wrong("min(1)", TYPED, 0);
        wrong("min([1],[2])", TYPED, 0);
        wrong("scan([[1]])", TYPED, 0);
        wrong("rev(1)", TYPED, 0);
        right("rev([[[1]]])", 5);
        wrong("cat([1],[[1]])", TYPED, 0);
        wrong("cat(1,1)", TYPED, 0);
        wrong("cat([1])", TYPED, 0);
        wrong("flat([1])", TYPED, 0);
        right("flat([[1]])", 4);
        wrong("pack([1],1)", TYPED, 0);
        wrong("pack(1,[1])", TYPED, 0);
        wrong("pack([1],[[1]])", TYPED, 0);
        wrong("perm([1],[[1]])", TYPED, 0);
        wrong("part([[[1]]],[1])", TYPED, 0);
        right("part([[1]],[1])", 6);
        wrong("part(1,[1])", TYPED, 0);
        wrong("part([1],1)", TYPED, 0);
        wrong("def f(x:int)=x; f([1])", TYPED, 16);
        wrong("def f(x:int)=x; f()", TYPED, 16);
        wrong("def f(x:int)=x; f(1,2)", TYPED, 16);
        wrong("def f()=1; f(1)", TYPED, 11);
        right("def f(x:[[[int]]])=x; 1", 2);
        wrong("def f(x:[[[[int]]]])=x; 1", TYPED, 6);
        wrong("{1:x in 1}", TYPED, 0);
        wrong("{1:x in [1]|[1]}", TYPED, 0);
        wrong("{[[[1]]]:x in [1]}", TYPED, 0);
        right("{[[1]]:x in [1]}", 6);
    }

    /** The first that is met, where there are several. */
    private static void order() {
        wrong("x+)", SYNTAX, 2);
        wrong("[1]+1 2", SYNTAX, 6);
        wrong("x+[1]+1", NAMED, 0);
        wrong("([1]+1)+x", TYPED, 4);
        wrong("f([1]+1)", TYPED, 5);
        wrong("f(1,x)", NAMED, 4);
        wrong("def f(x:int)=x; f(#1,y)", TYPED, 18);
        wrong("def f(x:[[[[int]]]],x:int)=y; z", TYPED, 6);
        wrong("def f(x:int,x:[[[[int]]]])=y; z", NAMED, 12);
        wrong("def f(x:int)=y; def f(x:int,x:int)=1; z", NAMED, 13);
        wrong("def f()=1; def f(x:int,x:int)=1; z", NAMED, 15);
        wrong("{y:x in 1,x in 2}", NAMED, 10);
        wrong("{y:x in z,x in 2}", NAMED, 8);
        wrong("{y:x in [1],x in w}", NAMED, 17);
        wrong("{y:x in [1],w in 2|z}", TYPED, 0);
        wrong("{y:x in [1]|z}", NAMED, 12);
        wrong("{y:x in [1]|#1}", TYPED, 12);
        wrong("{y:x in [1]|[1]}", NAMED, 1);
        wrong("{#1:x in [1]|[1]}", TYPED, 1);
        wrong("{1:a in [1],b in [1],b in [1],a in [1]}", NAMED, 21);
        wrong("if [1] then x else #1", NAMED, 12);
        wrong("if [1] then 1 else #1", TYPED, 19);
        wrong("let x=#1 in y", TYPED, 6);
        wrong("1[x]", NAMED, 2);
        wrong("[1,[1],x]", NAMED, 7);
        wrong("cat(1,x)", NAMED, 6);
    }
}
