/** Promise 10: meter, with the limits of WORK, STEPS and CELLS (promises 8 and 9). */
public final class MeterTest {
    private static final int OVER = 7, ROOM = 8;

    public static void main(String[] args) {
        work();
        span();
        steps();
        conditions();
        places();
        findings();
        workLimit();
        cellsLimit();
        stepsLimit();
        states();
        Check.end();
    }

    private static void nested(String text, int work, int span) {
        NestedVectors x = Check.program(text);
        Check.due("nested() of " + text, x.nested(), 0);
        Check.due("WORK of " + text, x.meter(0), work);
        Check.due("SPAN of " + text, x.meter(1), span);
    }

    private static void flat(String text, int steps, int cells, int lanes) {
        flat(text, 0, steps, cells, lanes);
    }

    private static void flat(String text, int finding, int steps, int cells, int lanes) {
        NestedVectors x = Check.program(text);
        Check.due("flat() of " + text, x.flat(), finding);
        Check.due("STEPS of " + text, x.meter(2), steps);
        Check.due("CELLS of " + text, x.meter(3), cells);
        Check.due("LANES of " + text, x.meter(4), lanes);
    }

    private static void work() {
        nested("1", 1, 1);
        nested("1+2*3", 5, 5);
        nested("let x=1 in x", 3, 3);
        nested("if 1 then 2 else 3+4", 3, 3);
        nested("if 0 then 2 else 3+4", 5, 5);
        nested("[1,2]", 3 + 2, 3);
        nested("[[1,2],[3]]", 6 + 2 + 1 + 5, 6);
        nested("#[1,2]", 4 + 2, 4);
        nested("[1,2][0]", 5 + 2, 5);
        nested("iota(4)", 2 + 4, 2);
        nested("dist(5,3)", 3 + 3, 3);
        nested("dist([1,2],3)", 5 + 2 + 9, 5);
        nested("sum(iota(4))", 3 + 4 + 4, 3);
        nested("max(iota(4))", 3 + 4 + 4, 3);
        nested("min(iota(4))", 3 + 4 + 4, 3);
        nested("scan(iota(4))", 3 + 4 + 4, 3);
        nested("rev([[1,2]])", 5 + 2 + 3 + 3, 5);
        nested("cat(iota(2),iota(3))", 5 + 2 + 3 + 5, 5);
        nested("flat([[1,2],[3]])", 7 + 2 + 1 + 5 + 3, 7);
        nested("pack([1,2],[1,0])", 7 + 2 + 2 + 1, 7);
        nested("perm([1,2],[1,0])", 7 + 2 + 2 + 2, 7);
        nested("part([1,2],[1,0,1])", 8 + 2 + 3 + 5, 8);
        nested("part([[1,2],[3]],[1,1])", 10 + 2 + 1 + 5 + 2 + 7, 10);
    }

    private static void span() {
        nested("def f(x:int)=x+1; f(2)", 5, 5);
        nested("def f()=1; def g()=f()+f(); g()", 6, 6);
        nested("{x:x in iota(0)}", 3, 3);
        nested("{x:x in iota(3)}", 3 + 3 + 3 + 3, 3 + 1);
        nested("{x+1:x in iota(3)}", 3 + 3 + 9 + 3, 3 + 3);
        nested("{if x then x+1 else 0:x in iota(3)}", 3 + 3 + 3 + 5 + 5 + 3, 3 + 5);
        nested("{if x then 0 else x+1:x in iota(3)}", 3 + 3 + 5 + 3 + 3 + 3, 3 + 5);
        nested("{x+1:x in iota(3)|x}", 3 + 3 + 1 + 4 + 4 + 2, 3 + 4);
        nested("{x+1:x in iota(3)|0}", 3 + 3 + 3, 3 + 1);
        nested("{{y:y in iota(x)}:x in iota(3)}", 3 + 3 + 3 * 3 + (0 + 0 + 0) + (1 + 1 + 1) + (2 + 2 + 2) + 6, 3 + 4);
        nested("1+#{{y:y in iota(x)}:x in iota(3)}", 3 + 30, 10);
        nested("{x:x in iota(2)}[0]+#{x+1:x in iota(2)}", 1 + 1 + (3 + 2 + 2 + 2) + 1 + 1 + (3 + 2 + 6 + 2), 14);
    }

    private static void steps() {
        flat("1", 2, 1, 1);
        flat("let x=1 in x", 1 + 2 + 1, 1, 1);
        flat("1+2", 6, 3, 1);
        flat("[1,2]", 6, 2 + 3, 1);
        flat("[[1,2],[3]]", 12, 3 + 3 + 2 + (1 + 2 + 3), 1);
        flat("#[1,2]", 8, 5 + 1, 1);
        flat("[1,2][1]", 10, 5 + 1 + 1, 1);
        flat("[[1,2]][0]", 5 * 2 + 2, 2 + 3 + 4 + 1 + 3, 1);
        flat("iota(3)", 4, 1 + 4, 1);
        flat("dist([1,2],3)", 10, 5 + 1 + (1 + 3 + 6), 1);
        flat("sum(iota(3))", 6, 5 + 1, 1);
        flat("scan(iota(3))", 6, 5 + 4, 1);
        flat("rev(iota(3))", 6, 5 + 4, 1);
        flat("cat(iota(3),iota(2))", 10, 5 + 4 + 6, 1);
        flat("flat([iota(3)])", 8, 5 + 5 + 4, 1);
        flat("pack(iota(2),[0,1])", 12, 4 + 5 + 2, 1);
        flat("perm(iota(2),[1,0])", 12, 4 + 5 + 3, 1);
        flat("part(iota(2),[0,2])", 12, 4 + 5 + (1 + 2 + 2), 1);
        flat("def f(x:int)=x; f(4)", 1 + 2 + 1, 1, 1);
    }

    private static void conditions() {
        flat("if 1 then 2 else 3", 1 + 2 + 2 + 2 + 1, 1 + 1 + 0 + 1, 1);
        flat("let s=[1,2] in if 0 then s else [3]", 1 + 6 + 1 + 2 + (1 + 1) + 4 + 1, 5 + 1 + 0 + 3 + 2, 1);
        flat("let s=[1,2] in if 1 then s else s", 1 + 6 + 1 + 2 + (1 + 1) + (1 + 1) + 1, 5 + 1 + 3 + 0 + 3, 1);
        // A variable counts once, one that is bound within does not count.
        flat("let a=1 in if a then a+a else let b=2 in b", 3 + 1 + 1 + (1 + 4) + (1 + 2 + 1) + 1, 1 + 1 + 1 + 0 + 1, 1);
        flat("{if x then x else 0-x:x in iota(3)}", 4 + 1 + 1 + 1 + (1 + 1) + (1 + 2 + 1 + 2 + 1),
            5 + 2 + (1 + 1 + 1) + 3, 3);
    }

    private static void places() {
        flat("{x:x in iota(3)}", 1 + 4 + 1, 1 + 4, 3);
        flat("{5:x in iota(3)}", 1 + 4 + 2, 1 + 4 + 3, 3);
        flat("{5:x in iota(0)}", 1 + 4 + 2, 1 + 1, 1);
        flat("let n=9 in {n:x in iota(3)}", 3 + 1 + 4 + 1 + 1, 1 + 5 + 3, 3);
        flat("let s=[1,2] in {s:x in iota(3)}", 7 + 1 + 4 + 1 + 1, 5 + 5 + 9, 3);
        // c in 3 lanes, x for b in 2 of them, lengths anew, b in 2.
        flat("{x:x in iota(3)|x}", 1 + 4 + 1 + 1 + 1 + 1, 5 + 2 + 1, 3);
        flat("{5:x in iota(3)|x}", 1 + 4 + 1 + 1 + 2, 5 + 1 + 2, 3);
        flat("let n=9 in {n:x in iota(3)|x}", 3 + 1 + 4 + 1 + 1 + 1 + 1 + 1, 1 + 5 + 3 + 2 + 1, 3);
        flat("let n=9 in {5:x in iota(3)|n}", 3 + 1 + 4 + 1 + 1 + 1 + 2, 1 + 5 + 3 + 1 + 3, 3);
        flat("{{y:y in iota(x)}:x in iota(3)}", 1 + 4 + 1 + 3 + 1, 5 + 6, 3);
        flat("{{x:y in iota(x)}:x in iota(4)}", 1 + 4 + 1 + 3 + 1 + 1, 6 + 10 + 6, 6);
        flat("{x+y:x in iota(2),y in [7,8]}", 1 + 4 + 6 + 4, 4 + 5 + 2, 2);
        flat("let n=9 in {n:x in [5,6]}", 3 + 1 + 6 + 1 + 1, 1 + 5 + 2, 2);
        flat("let s=[5] in {s:x in [7,8]}", 5 + 1 + 6 + 1 + 1, 3 + 5 + 4, 2);
        flat("let n=9 in {{n:y in r}:r in [[5,6],[7]]}", 3 + 1 + 12 + 1 + 1 + 1 + 1 + 1, 1 + 14 + 2 + 3, 3);
        // What one { } or if takes of variables the next one does not.
        flat("let n=9 in [#{n:x in [5,6]},#{1:x in [5,6]}]", 3 + 1 + 11 + 11 + 1, 1 + 8 + 8 + 3, 2);
        flat("let n=9 in [#{n:x in [5,6]},if 1 then 2 else 3]", 3 + 1 + 11 + 8 + 1, 1 + 8 + 3 + 3, 2);
        flat("let n=9 in [if 1 then n else 3,#{1:x in [5,6]}]", 3 + 1 + 8 + 11 + 1, 1 + 3 + 8 + 3, 2);
        flat("let n=9 in if 1 then {n:x in [5,6]} else iota(0)",
            3 + 1 + 2 + 1 + (1 + 6 + 1 + 1) + 4 + 1, 1 + 1 + 1 + 5 + 2 + 3, 2);
        // Each variable once, however often it stands there, and in whichever part.
        flat("let n=9 in {n+n:x in [5,6]|n}", 3 + 1 + 6 + 1 + 1 + 1 + 1 + 4, 1 + 5 + 2 + 2 + 1 + 2, 2);
        flat("let n=9 in {n+x+n+x:x in [5,6]|x-x}", 3 + 1 + 6 + 1 + 4 + 2 + 1 + 10, 1 + 5 + 2 + 2 + 0 + 1, 2);
    }

    /** The cells of the step that ended it count, as if the lane had 0 or no items. */
    private static void findings() {
        flat("1/0", 1, 6, 3, 1);
        flat("iota(0-1)", 5, 1 + 6 + 1, 3 + 1, 1);
        flat("dist([1],201)", 5, 1 + 4 + 2 + 1, 3 + 1 + 1, 1);
        flat("[[1]][5]", 2, 1 + 6 + 2 + 1, 1 + 2 + 3 + 1 + 1, 1);
        flat("part([1],[2])", 3, 1 + 4 + 4 + 1, 3 + 3 + 1, 1);
        flat("{iota(x):x in [2,0-1,3]}", 5, 1 + 1 + 2 + 6 + 2 + 1 + 1 + 1 + 1, 4 + 1 + 4 + 3 + 2 + 3, 3);
        flat("{1:x in iota(2),y in iota(3)}", 3, 1 + 4 + 4, 3 + 1 + 4 + 1, 1);
        NestedVectors x = Check.program("[1,2/0]");
        Check.due("nested()", x.nested(), 1);
        Check.due("WORK till the finding", x.meter(0), 5);
        Check.due("no SPAN", x.meter(1), NestedVectors.STATE);
    }

    private static void workLimit() {
        NestedVectors x = Check.program("dist(iota(80),36)");
        Check.due("nested() with WORK 3000", x.nested(), 0);
        Check.due("WORK of 3000", x.meter(0), 3000);
        Check.due("SPAN of it", x.meter(1), 4);
        x = Check.program("#dist(iota(80),36)");
        Check.due("nested() with one more", x.nested(), OVER);
        Check.due("WORK stays ahead of the COUNT", x.meter(0), 85);
        Check.due("no SPAN behind OVER", x.meter(1), NestedVectors.STATE);
        x = Check.program("dist(iota(106),27)[0]");
        Check.due("nested() with a node too many", x.nested(), OVER);
        Check.due("WORK stays ahead of the node", x.meter(0), 3000);
        x = Check.program("sum({sum(iota(199)):x in iota(99)})");
        Check.due("nested() of much", x.nested(), OVER);
        // 4 for sum, { }, iota, 99, and 99 items; 401 for each place: three nodes, 199 made, 199 summed.
        Check.due("WORK of much", x.meter(0), 103 + 7 * 401 + 3);
        // A finding of its own comes ahead of OVER.
        x = Check.program("cat(flat(dist(iota(100),2)),flat(dist(iota(100),2)))");
        Check.due("SIZE ahead of OVER", x.nested(), 5);
    }

    private static void cellsLimit() {
        flat("dist(iota(108),54+0)", 0, 12, 6000, 1);
        flat("dist(iota(108),54+0+0)", ROOM, 15, 115, 1);
        flat("dist(dist(iota(200),200),200)", ROOM, 8, 203, 1);
        // ROOM comes ahead of a finding of the same step.
        flat("{dist(iota(200),x):x in [200,201]}", ROOM, 1 + 6 + 1 + 4 + 1, 5 + 2 + 402, 2);
        flat("{iota(x):x in cat(dist(200,99),[0-1])}", ROOM, 1 + 1 + 6 + 8 + 1 + 2, 2 + 100 + 3 + 2 + 101, 100);
        flat("{iota(x):x in dist(200,200)}", ROOM, 1 + 6 + 2, 2 + 201, 200);
    }

    private static String sumOf(String term, int n) {
        return term + ("+" + term).repeat(n - 1);
    }

    private static void stepsLimit() {
        // a() takes 19 steps, b() 104, and 18 of them with the + between 1906.
        String defs = "def a()=" + sumOf("1", 5) + ";def b()=" + sumOf("a()", 5) + ";";
        flat(defs + sumOf("b()", 18), 0, 1906, 18 * (5 * 9 + 4) + 17, 1);
        String fit = defs + "let y=1 in " + sumOf("b()", 18) + "+y" + "+1".repeat(22);
        flat(fit, 0, 2000, 899 + 1 + 1 + 44, 1);
        String more = defs + "let y=1 in " + sumOf("b()", 18) + "+1".repeat(23);
        flat(more, ROOM, 2000, 899 + 1 + 45, 1);
        NestedVectors x = Check.program(more);
        Check.due("nested() of it", x.nested(), 0);
        x.flat();
        Check.due("alike() behind ROOM", x.alike(), NestedVectors.STATE);
        flat(fit + "+y", ROOM, 2000, 899 + 1 + 1 + 44 - 1, 1);
    }

    private static void states() {
        NestedVectors x = Check.program("[1]");
        for (int what = 0; what < 5; what++) {
            Check.due("meter(" + what + ") ahead of runs", x.meter(what), NestedVectors.STATE);
        }
        x.nested();
        Check.due("meter(0)", x.meter(0), 3);
        Check.due("meter(1)", x.meter(1), 2);
        Check.due("meter(2) without a flat run", x.meter(2), NestedVectors.STATE);
        Check.due("meter(4) without a flat run", x.meter(4), NestedVectors.STATE);
        NestedVectors y = Check.program("[1]");
        y.flat();
        Check.due("meter(2)", y.meter(2), 4);
        Check.due("meter(0) without a nested run", y.meter(0), NestedVectors.STATE);
        Check.due("meter(5)", y.meter(5), NestedVectors.BAD);
        Check.due("meter(-1)", y.meter(-1), NestedVectors.BAD);
        Check.due("meter(min)", y.meter(Integer.MIN_VALUE), NestedVectors.BAD);
        Check.due("meter(max)", new NestedVectors().meter(Integer.MAX_VALUE), NestedVectors.BAD);
    }
}
