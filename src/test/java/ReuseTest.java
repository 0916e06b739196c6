/** One object used on and on: nothing of earlier programs and runs is left behind in later ones. */
public final class ReuseTest {
    public static void main(String[] args) {
        names();
        manyReads();
        lengthsOfPrograms();
        failedPerm();
        findingsOverAndOver();
        fullRunsOverAndOver();
        sumOfNone();
        spans();
        lanes();
        manySequences();
        manyRows();
        Check.end();
    }

    private static NestedVectors next(NestedVectors x, String text) {
        Check.due("the tape ahead of " + text, x.about(3), 0);
        Check.feed(x, text);
        int got = x.read();
        Check.due("fault() of " + text, x.fault(), 0);
        Check.due("read() of " + text, got > 0 ? 1 : 0, 1);
        return x;
    }

    private static void comes(NestedVectors x, String text, String due) {
        next(x, text);
        Check.due("nested() of " + text, x.nested(), 0);
        Check.due("flat() of " + text, x.flat(), 0);
        Check.due("nested text of " + text, Check.text(x, false), due);
        Check.due("flat text of " + text, Check.text(x, true), due);
        Check.due("alike() of " + text, x.alike(), 1);
    }

    private static void refused(NestedVectors x, String text, int kind, int place) {
        Check.feed(x, text);
        Check.due("read() of " + text, x.read(), -100 - place);
        Check.due("fault() of " + text, x.fault(), kind);
        x.cut(0);
    }

    /** Variables, PARAMS, GENS and DEFS end with their program. */
    private static void names() {
        NestedVectors x = new NestedVectors();
        comes(x, "let x=1 in x", "1");
        refused(x, "x", Edge.NAMED, 0);
        refused(x, "def g()=x; 1", Edge.NAMED, 8);
        comes(x, "def f(p:int)=p; {f(q):q in[4]}", "[4]");
        refused(x, "f(1)", Edge.NAMED, 0);
        refused(x, "p", Edge.NAMED, 0);
        refused(x, "q", Edge.NAMED, 0);
        comes(x, "def f()=7; f()", "7");
        // Also those of a program that was refused.
        refused(x, "def h()=1; let y=2 in #y", Edge.TYPED, 22);
        refused(x, "h()", Edge.NAMED, 0);
        refused(x, "y", Edge.NAMED, 0);
        comes(x, "def h(y:int)=y; h(3)", "3");
    }

    /** Big programs, with many nodes and variables, as often as 512 calls allow. */
    private static void manyReads() {
        String one = ",{d:a in s,b in s,c in s,d in s}";
        NestedVectors x = new NestedVectors();
        for (int i = 3; i < 6; i++) {
            next(x, "let s=[" + i + "] in [" + one.repeat(30).substring(1) + "]");
            Check.due("about(0) of a big program", x.about(0), 3 + 1 + 30 * 6);
            whole(x, "[" + ("[" + i + "],").repeat(29) + "[" + i + "]]");
        }
    }

    /** Both runs come to that long text, whose first and last bytes are looked at. */
    private static void whole(NestedVectors x, String due) {
        Check.due("nested()", x.nested(), 0);
        Check.due("flat()", x.flat(), 0);
        Check.due("alike()", x.alike(), 1);
        for (int run = 0; run < 2; run++) {
            Check.due("shown", x.shown(run == 1), due.length());
            for (int i = 0; i < 4; i++) {
                Check.due("byteAt", x.byteAt(run == 1, i), due.charAt(i));
                int last = due.length() - 1 - i;
                Check.due("byteAt", x.byteAt(run == 1, last), due.charAt(last));
            }
        }
    }

    private static void lengthsOfPrograms() {
        NestedVectors x = new NestedVectors();
        comes(x, "[[1,2],[3],iota(0)]", "[[1,2],[3],[]]");
        comes(x, "5", "5");
        Check.due("node(1, 0) of 5", x.node(1, 0), Edge.NONE);
        Check.due("byteAt(false, 1) of 5", x.byteAt(false, 1), Edge.NONE);
        Check.due("byteAt(true, 1) of 5", x.byteAt(true, 1), Edge.NONE);
        comes(x, "{x:x in[1]|x}", "[1]");
        comes(x, "{x:x in[1]}", "[1]");
        comes(x, "{x+y:x in[1],y in[2]}", "[3]");
        comes(x, "{x:x in[1]}", "[1]");
        comes(x, "def f(p:int)=p;f(1)", "1");
        comes(x, "1+1", "2");
    }

    /** What a PERM found so far of places does not count for the next one. */
    private static void failedPerm() {
        NestedVectors x = new NestedVectors();
        String[] texts = {"perm([1,2,3],[0,0,1])", "perm([5],[1])", "perm([5,6],[2,0])", "perm([1,2,3],[2,2,2])", "perm([5,6],[0,2])"};
        for (String text : texts) {
            next(x, text);
            Check.due("nested() of " + text, x.nested(), Edge.PERM);
            Check.due("flat() of " + text, x.flat(), Edge.PERM);
        }
        comes(x, "perm([1,2,3],[2,0,1])", "[2,3,1]");
    }

    /** A run that ends in the midst of much leaves nothing of it to the next one. */
    private static void findingsOverAndOver() {
        String text = "[1" + ",1".repeat(180) + ",1/0]";
        NestedVectors x = Check.program(text);
        for (int i = 0; i < 19; i++) {
            Check.due("nested() " + i, x.nested(), Edge.QUOTIENT);
            Check.due("flat() " + i, x.flat(), Edge.QUOTIENT);
            Check.due("WORK " + i, x.meter(0), 185);
            Check.due("STEPS " + i, x.meter(2), 2 * 181 + 7);
            Check.due("CELLS " + i, x.meter(3), 181 + 3);
        }
        String right = "[1" + ",1".repeat(180) + ",2]";
        next(x, right);
        whole(x, right);
    }

    private static void fullRunsOverAndOver() {
        String nested = Edge.work(2990) + "rev([5,6])";
        NestedVectors x = Check.program(nested);
        for (int i = 0; i < 20; i++) {
            Check.due("nested() " + i, x.nested(), 0);
            Check.due("WORK " + i, x.meter(0), 2998);
            Check.due("text " + i, Check.text(x, false), "[6,5]");
        }
        NestedVectors y = Check.program(Edge.cells(5992) + "rev([5,6])");
        for (int i = 0; i < 20; i++) {
            Check.due("flat() " + i, y.flat(), 0);
            Check.due("CELLS " + i, y.meter(3), 6000);
            Check.due("flat text " + i, Check.text(y, true), "[6,5]");
        }
        NestedVectors z = Check.program(Edge.steps(1990) + "[5,6][1]");
        for (int i = 0; i < 20; i++) {
            Check.due("flat() " + i, z.flat(), 0);
            Check.due("STEPS " + i, z.meter(2), 2000);
            Check.due("flat text " + i, Check.text(z, true), "6");
        }
    }

    private static void sumOfNone() {
        NestedVectors x = new NestedVectors();
        comes(x, "rev([7,8,9])", "[9,8,7]");
        comes(x, "sum(iota(0))", "0");
        comes(x, "{sum(r):r in[[7],iota(0),[8,9]]}", "[7,0,17]");
        comes(x, "sum(iota(0))", "0");
        next(x, "max(iota(0))");
        Check.due("nested() of max(iota(0))", x.nested(), Edge.EMPTY);
        Check.due("flat() of max(iota(0))", x.flat(), Edge.EMPTY);
    }

    private static void spans() {
        NestedVectors x = Check.program("{x+1+1+1:x in[1]}");
        x.nested();
        Check.due("SPAN of the first", x.meter(1), 3 + 7);
        next(x, "{x:x in[1]}").nested();
        Check.due("SPAN of the second", x.meter(1), 3 + 1);
        next(x, "{x:x in iota(0)}").nested();
        Check.due("SPAN without places", x.meter(1), 3);
        // The first place's inner { } has the greater span, the second place has more beside it.
        next(x, "{#{if y then y+y+y+y+y else 0:y in r}+(if #r<2 then 0 else 0+0):r in[[1],[0,0]]}").nested();
        // 1, the row: 6; of a place + # { r, its items, and if, <, #, r, 2, and what is chosen.
        int first = 1 + 1 + 1 + 1 + (2 + 9) + 5 + 1;
        int second = 1 + 1 + 1 + 1 + (2 + 1) + 5 + 3;
        Check.due("SPAN of the greater", x.meter(1), 1 + 6 + Math.max(first, second));
        next(x, "{#{if y then y+y else 0:y in r}+(if #r<2 then 0 else 0+0+0+0+0):r in[[1],[0,0]]}").nested();
        first = 4 + (2 + 3) + 5 + 1;
        second = 4 + (2 + 1) + 5 + 9;
        Check.due("SPAN of the other", x.meter(1), 1 + 6 + Math.max(first, second));
    }

    private static void lanes() {
        NestedVectors x = Check.program("{1:x in iota(200)}");
        x.flat();
        Check.due("LANES of the first", x.meter(4), 200);
        next(x, "{1:x in iota(7)}").flat();
        Check.due("LANES of the second", x.meter(4), 7);
        next(x, "1").flat();
        Check.due("LANES of the third", x.meter(4), 1);
        next(x, "{1:x in iota(5),y in iota(6)}").flat();
        Check.due("LANES of one that ends by LENGTH", x.meter(4), 1);
    }

    /** As many sequences as WORK can pay. */
    private static void manySequences() {
        String text = "let s=dist(0,200) in {#part(iota(0),s)+sum([x,x]):x in iota(12)}";
        NestedVectors x = new NestedVectors();
        for (int i = 0; i < 3; i++) {
            next(x, text);
            Check.due("nested() of many sequences", x.nested(), 0);
            Check.due("text of many sequences", Check.text(x, false), "[200,202,204,206,208,210,212,214,216,218,220,222]");
        }
    }

    /** Nearly as many rows as STEPS can make: six variables of depth 3 go through seven ifs, 17 times. */
    private static void manyRows() {
        String type = ":[[[int]]]";
        String def = "def f(p" + type + ",q" + type + ",r" + type + ",s" + type + ",t" + type + ",u" + type + ")="
            + "if 1 then ".repeat(7) + "cat(p,cat(q,cat(r,cat(s,cat(t,u)))))" + " else p".repeat(7) + ";";
        String text = def + "let z=dist([[1]],0) in [" + "#f(z,z,z,z,z,z),".repeat(17) + "sum(iota(5))]";
        NestedVectors x = new NestedVectors();
        for (int i = 0; i < 3; i++) {
            comes(x, text, "[" + "0,".repeat(17) + "10]");
            // let, dist, and its parts; a call takes 101 with its #, and 7 for its parts; sum(iota(5)).
            Check.due("STEPS of many rows", x.meter(2), 1 + 10 + 1 + 17 * (2 + 1 + 6 + 100) + 6 + 1);
        }
    }
}
