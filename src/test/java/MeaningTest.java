/** Promises 8 and 9: what both runs come to, with each finding. */
public final class MeaningTest {
    private static final int QUOTIENT = 1, INDEX = 2, LENGTH = 3, EMPTY = 4, SIZE = 5, PERM = 6;

    public static void main(String[] args) {
        numbers();
        sequences();
        each();
        variables();
        findings();
        whichFinding();
        runs();
        Check.end();
    }

    private static void comes(String text, String due) {
        NestedVectors x = Check.program(text);
        Check.due("nested() of " + text, x.nested(), 0);
        Check.due("flat() of " + text, x.flat(), 0);
        Check.due("nested text of " + text, Check.text(x, false), due);
        Check.due("flat text of " + text, Check.text(x, true), due);
        Check.due("alike() of " + text, x.alike(), 1);
    }

    private static void ends(String text, int finding) {
        ends(text, finding, finding);
    }

    private static void ends(String text, int nested, int flat) {
        NestedVectors x = Check.program(text);
        Check.due("nested() of " + text, x.nested(), nested);
        Check.due("flat() of " + text, x.flat(), flat);
        Check.due("shown(false) of " + text, x.shown(false), NestedVectors.STATE);
        Check.due("shown(true) of " + text, x.shown(true), NestedVectors.STATE);
        Check.due("alike() of " + text, x.alike(), 2);
    }

    private static void numbers() {
        comes("0", "0");
        comes("007", "7");
        comes("2-3-4", "-5");
        comes("2+3*4", "14");
        comes("100/7/2", "7");
        comes("7-2*3%4", "5");
        comes("(0-7)/2", "-3");
        comes("(0-7)%2", "-1");
        comes("7/(0-2)", "-3");
        comes("7%(0-2)", "1");
        comes("999999999*999999999", "" + 999999999 * 999999999);
        comes("999999999+999999999+999999999", "" + (999999999 + 999999999 + 999999999));
        comes("0-2147483*1000-648", "-2147483648");
        comes("(0-2147483*1000-648)/(0-1)", "-2147483648");
        comes("(0-2147483*1000-648)%(0-1)", "0");
        comes("(0-2147483*1000-648)-1", "2147483647");
        comes("1<2", "1");
        comes("2<2", "0");
        comes("2=2", "1");
        comes("1=2", "0");
        comes("1+1=2", "1");
        comes("if 0-5 then 1 else 2", "1");
        comes("if 0 then 1 else 2", "2");
        comes("if 0 then 1/0 else 2", "2");
        comes("if 1 then 1 else [1][5]", "1");
        comes("let x=3 in let y=x*x in y-x", "6");
        comes("#[4,5,6]", "3");
        comes("#iota(0)", "0");
        comes("#[[1],[2,3]]", "2");
        comes("[4,5,6][2]", "6");
        comes("[[1],[2,3]][1]", "[2,3]");
        comes("[[1],[2,3]][1][0]", "2");
    }

    private static void sequences() {
        comes("[1,2,3]", "[1,2,3]");
        comes("[[1],iota(0)]", "[[1],[]]");
        comes("iota(0)", "[]");
        comes("iota(5)", "[0,1,2,3,4]");
        comes("#iota(200)", "200");
        comes("dist(7,3)", "[7,7,7]");
        comes("dist([1,2],2)", "[[1,2],[1,2]]");
        comes("dist([[1]],0)", "[]");
        comes("#dist(1,200)", "200");
        comes("sum(iota(5))", "10");
        comes("sum(iota(0))", "0");
        comes("max([3,9,2])", "9");
        comes("max([0-3,0-9])", "-3");
        comes("min([3,9,2])", "2");
        comes("min([0-3,0-9])", "-9");
        comes("scan([3,1,4])", "[0,3,4]");
        comes("scan(iota(0))", "[]");
        comes("rev([1,2,3])", "[3,2,1]");
        comes("rev([[1,2],[3]])", "[[3],[1,2]]");
        comes("rev(iota(0))", "[]");
        comes("cat([1,2],[3])", "[1,2,3]");
        comes("cat(iota(0),iota(0))", "[]");
        comes("cat([[1]],[[2,3],[4]])", "[[1],[2,3],[4]]");
        comes("#cat(iota(100),iota(100))", "200");
        comes("flat([[1,2],iota(0),[3]])", "[1,2,3]");
        comes("flat([[[1],[2]],[[3,4]]])", "[[1],[2],[3,4]]");
        comes("flat([iota(0)])", "[]");
        comes("flat(dist(iota(0),3))", "[]");
        comes("#flat(dist(iota(100),2))", "200");
        comes("pack([5,6,7],[0-1,0,2])", "[5,7]");
        comes("pack([[5],[6]],[0,1])", "[[6]]");
        comes("pack(iota(0),iota(0))", "[]");
        comes("perm([5,6,7],[1,2,0])", "[7,5,6]");
        comes("perm([[5],[6,7]],[1,0])", "[[6,7],[5]]");
        comes("perm(iota(0),iota(0))", "[]");
        comes("part([1,2,3],[2,0,1])", "[[1,2],[],[3]]");
        comes("part([[1],[2]],[1,1])", "[[[1]],[[2]]]");
        comes("part(iota(0),iota(0))", "[]");
        comes("part(iota(0),[0,0])", "[[],[]]");
        comes("part(iota(3),[3])", "[[0,1,2]]");
    }

    private static void each() {
        comes("{x*x:x in iota(4)}", "[0,1,4,9]");
        comes("{x:x in iota(0)}", "[]");
        comes("{x+y*z:x in [1,2],y in [3,4],z in [5,6]}", "[16,26]");
        comes("{x:x in iota(6)|x%2}", "[1,3,5]");
        comes("{x:x in iota(6)|0}", "[]");
        comes("{x-y:x in [9,8],y in [1,2]|y=2}", "[6]");
        comes("{{x+y:y in iota(x)}:x in iota(4)}", "[[],[1],[2,3],[3,4,5]]");
        comes("{{y:y in r|y<n}:r in [[1,2,3],[4,0],[5]],n in [3,1,0]}", "[[1,2],[0],[]]");
        comes("{10/x:x in [5,0,2]|x}", "[2,5]");
        comes("{if x<2 then [x] else iota(x):x in iota(4)}", "[[0],[1],[0,1],[0,1,2]]");
        comes("{if x then 6/x else 0-1:x in iota(4)}", "[-1,6,3,2]");
        comes("{if x then if x-1 then 3 else 2 else 1:x in iota(3)}", "[1,2,3]");
        comes("{{{x*100+y*10+z:z in iota(2)}:y in iota(2)}:x in iota(2)}",
            "[[[0,1],[10,11]],[[100,101],[110,111]]]");
        comes("let s=[1,2] in {s:x in iota(2)|s[0]}[0]", "[1,2]");
        comes("{rev(r):r in [[1,2],[3]]}", "[[2,1],[3]]");
        comes("{cat(r,r):r in [[1,2],iota(0),[3]]}", "[[1,2,1,2],[],[3,3]]");
        comes("{flat(r):r in [[[1],[2,3]],[iota(0)]]}", "[[1,2,3],[]]");
        comes("{pack(r,[1,0]):r in [[1,2],[3,4]]}", "[[1],[3]]");
        comes("{perm(r,p):r in [[1,2],[3,4]],p in [[0,1],[1,0]]}", "[[1,2],[4,3]]");
        comes("{part(r,l):r in [[1,2],[3]],l in [[1,1],[0,1,0]]}", "[[[1],[2]],[[],[3],[]]]");
        comes("{dist(r,#r):r in [[1,2],[3]]}", "[[[1,2],[1,2]],[[3]]]");
        comes("{[max(r),min(r),sum(r)]:r in [[1,2],[3]]}", "[[2,1,3],[3,3,3]]");
        comes("{scan(r):r in [[1,2,3],iota(0),[4]]}", "[[0,1,3],[],[0]]");
        comes("{r[1]:r in [[1,2],[3,4]]}", "[2,4]");
        comes("{#r:r in [[1,2],iota(0)]}", "[2,0]");
        comes("{r[#r-1]:r in [[[1],[2]],[[3,4]]]}", "[[2],[3,4]]");
    }

    private static void variables() {
        comes("let x=1 in (let x=2 in x)+x", "3");
        comes("let x=1 in let x=x+1 in x", "2");
        comes("let x=5 in {x:x in iota(2)}", "[0,1]");
        comes("let x=[1,2] in {x:x in x}", "[1,2]");
        comes("let x=[1,2] in {x+y:x in x,y in x|y}", "[2,4]");
        comes("let y=7 in {let y=x in y:x in [1,2]}", "[1,2]");
        comes("let y=7 in [{let y=x in y:x in [1,2]}[0],y]", "[1,7]");
        comes("let y=7 in [#{y:x in [1,2]|y},y]", "[2,7]");
        comes("let s=[1,2] in {if x then sum(s) else #s:x in [0,1,1]}", "[2,3,3]");
        comes("def f(x:int)=x+1; let x=10 in f(f(x))*x", "120");
        comes("def f(x:int,y:int)=x-y; f(f(9,1),f(4,3))", "7");
        comes("def f(s:[int])={x*#s:x in s}; def g(s:[int])=f(f(s)); {g(r):r in [[1],[2,3]]}", "[[1],[8,12]]");
        comes("def a()=3; def b()=a()*a(); {b()+x:x in iota(a())}", "[9,10,11]");
        comes("def f(x:int)=if x then 10/x else 0; {f(y):y in iota(3)}", "[0,10,5]");
        comes("let n=2 in {let n=n+x in {n*y:y in iota(2)}:x in iota(2)}", "[[0,2],[0,3]]");
        comes("let a=1 in let b=2 in let c=3 in {if x=a then b else if x=b then c else a:x in iota(3)}", "[1,2,3]");
    }

    private static void findings() {
        ends("1/0", QUOTIENT);
        ends("1%0", QUOTIENT);
        ends("[1][1]", INDEX);
        ends("[1][0-1]", INDEX);
        ends("iota(0)[0]", INDEX);
        ends("[[1]][1]", INDEX);
        ends("iota(0-1)", SIZE);
        ends("iota(201)", SIZE);
        ends("dist(1,0-1)", SIZE);
        ends("dist([1],201)", SIZE);
        ends("max(iota(0))", EMPTY);
        ends("min(iota(0))", EMPTY);
        ends("cat(iota(101),iota(100))", SIZE);
        ends("flat([iota(101),iota(100)])", SIZE);
        ends("pack([1],[1,2])", LENGTH);
        ends("pack([1,2],[1])", LENGTH);
        ends("perm([1],[0,1])", LENGTH);
        ends("perm([1,2],[0])", LENGTH);
        ends("perm([1,2],[0,2])", PERM);
        ends("perm([1,2],[0,0])", PERM);
        ends("perm([1,2],[0-1,0])", PERM);
        ends("perm([1],[0,0])", LENGTH);
        ends("part([1],[0-1,2])", SIZE);
        ends("part([1],[2])", LENGTH);
        ends("part([1,2],[1])", LENGTH);
        ends("part([1],[5,0-1])", SIZE);
        ends("part([1],iota(0))", LENGTH);
        // Together they are 1 in 32 bits.
        ends("part([1],[999999999,999999999,999999999,999999999,294967301])", LENGTH);
        ends("{1:x in [1],y in [1,2]}", LENGTH);
        ends("{1:x in [1,2],y in [1,2],z in [1]}", LENGTH);
        ends("{1:x in iota(0),y in [1]}", LENGTH);
        ends("{10/x:x in [1,0]}", QUOTIENT);
        ends("{x:x in [1]|1/0}", QUOTIENT);
        ends("if 1/0 then 1 else 2", QUOTIENT);
        ends("let x=1/0 in 2", QUOTIENT);
        ends("def f(x:int)=2; f(1/0)", QUOTIENT);
        ends("{{1:x in r,y in [1]}:r in [[1],[1,2]]}", LENGTH);
    }

    /** The nested run meets them place by place, the flat run part by part, and there the least lane's. */
    private static void whichFinding() {
        ends("{[1/x,[1][x]]:x in [1,0]}", INDEX, QUOTIENT);
        ends("{[1/x,[1][x]]:x in [0,1]}", QUOTIENT, QUOTIENT);
        ends("{[[1][x],1/x]:x in [0,1]}", QUOTIENT, INDEX);
        ends("{part([1],[x]):x in [2,0-1]}", LENGTH, LENGTH);
        ends("{part([1],[x]):x in [0-1,2]}", SIZE, SIZE);
        ends("{perm([1,2],p):p in [[0,0],[0]]}", PERM, PERM);
        ends("{perm([1,2],p):p in [[0],[0,0]]}", LENGTH, LENGTH);
        ends("{if x then 1/0 else [1][5]:x in [0,1]}", INDEX, QUOTIENT);
        ends("(1/0)+[1][1]", QUOTIENT, QUOTIENT);
    }

    private static void runs() {
        NestedVectors x = Check.program("1/0");
        for (int i = 0; i < 20; i++) {
            if (i == 10) {
                Check.feed(x, "[3]");
                x.read();
            }
            Check.due("nested() " + i, x.nested(), i < 10 ? QUOTIENT : 0);
        }
        Check.due("nested() for the 21st time", x.nested(), NestedVectors.FULL);
        Check.due("the 20th stays", Check.text(x, false), "[3]");
        for (int i = 0; i < 20; i++) {
            Check.due("flat() " + i, x.flat(), 0);
        }
        Check.due("flat() for the 21st time", x.flat(), NestedVectors.FULL);
        Check.due("alike() of the latest", x.alike(), 1);
        Check.feed(x, "4");
        x.read();
        Check.due("nested() of the next program", x.nested(), NestedVectors.FULL);
        Check.due("flat() of the next program", x.flat(), NestedVectors.FULL);
        Check.due("there was no run of it", x.meter(0), NestedVectors.STATE);
        x.read();
        Check.due("nested() of none", x.nested(), NestedVectors.STATE);
        Check.due("flat() of none", x.flat(), NestedVectors.STATE);
    }
}
