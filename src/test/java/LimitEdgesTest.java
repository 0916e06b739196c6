/**
 * WORK up to 3000, STEPS up to 2000, CELLS up to 6000: each that a NODE takes, as the last that fits and as the
 * first that does not. A text tells what has been taken with it, and how much the last of that is.
 */
public final class LimitEdgesTest {
    private static final int WORK = 3000, STEPS = 2000, CELLS = 6000;

    public static void main(String[] args) {
        workOfBegins();
        workOfEnds();
        workBehindFindings();
        countOfWhatCame();
        stepsOfBegins();
        lanesOfBegins();
        stepsOfNumbersAndSigns();
        stepsOfReservedWords();
        stepsOfChoices();
        stepsOfEach();
        stepsWithFindings();
        lengthIsNoStep();
        noStepAtAll();
        bothStay();
        Check.end();
    }

    /** "OVER: WORK would pass 3000 (it stays as it was)" */
    private static void work(String core, int taken, int last) {
        NestedVectors x = Check.program(Edge.work(WORK - taken) + core);
        x.nested();
        Check.due("WORK with the last of " + core, x.meter(0), WORK);
        NestedVectors y = Check.program(Edge.work(WORK + 1 - taken) + core);
        Check.due("nested() with the last of " + core + " too much", y.nested(), Edge.OVER);
        Check.due("WORK with the last of " + core + " too much", y.meter(0), WORK + 1 - last);
        Check.due("SPAN behind OVER", y.meter(1), Edge.STATE);
        Check.due("shown(false) behind OVER", y.shown(false), Edge.STATE);
        y.flat();
        Check.due("alike() behind OVER", y.alike(), Edge.STATE);
    }

    /** "WORK: 1 for each NODE that is worked out (as it begins)" */
    private static void workOfBegins() {
        NestedVectors x = Check.program(Edge.work(WORK - 1) + "7");
        Check.due("nested() with WORK of 3000", x.nested(), 0);
        Check.due("WORK of 3000", x.meter(0), WORK);
        Check.due("what it came to", Check.text(x, false), "7");
        work("7", 1, 1);
        work("let x=1 in 2", 1, 1);
        work("let x=1 in 2", 3, 1);
        work("let x=1 in x", 3, 1);
        work("if 1 then 2 else 3", 1, 1);
        work("if 1 then 2 else 3", 3, 1);
        work("if 0 then 2 else 3", 3, 1);
        work("1+2", 1, 1);
        work("1+2", 3, 1);
        work("#[1]", 1, 1);
        work("[5][0]", 1, 1);
        work("[5][0]", 5, 1);
        work("iota(1)", 1, 1);
        work("[1]", 1, 1);
        work("{1:x in iota(2)}", 1, 1);
        work("{1:x in iota(2)}", 6, 1);
        work("{1:x in iota(2)|x}", 6, 1);
        work("{1:x in iota(2)|x}", 8, 1);
        String def = "def f(p:int)=p;";
        NestedVectors y = Check.program(def + Edge.work(WORK - 3) + "f(4)");
        Check.due("nested() of a call that fits", y.nested(), 0);
        NestedVectors z = Check.program(def + Edge.work(WORK - 2) + "f(4)");
        Check.due("nested() of a call whose EXPR does not fit", z.nested(), Edge.OVER);
        Check.due("its WORK", z.meter(0), WORK);
    }

    /** "and, as it ends: ... the COUNT of what comes of it, for sum, max, min how many items s has" */
    private static void workOfEnds() {
        work("[1,2]", 5, 2);
        work("[[1,2]]", 4 + 2 + 3, 3);
        work("[[[1,2]]]", 5 + 2 + 3 + 4, 4);
        work("{7:x in iota(3)}", 12, 3);
        work("{7:x in iota(3)|x}", 3 + 3 + 5 + 2, 2);
        work("{[x]:x in iota(3)}", 3 + 3 + 9 + 6, 6);
        work("iota(3)", 5, 3);
        work("iota(200)", 202, 200);
        work("dist(7,3)", 6, 3);
        work("dist([1,2],3)", 5 + 2 + 9, 9);
        work("dist(dist(7,10),10)", 5 + 10 + 110, 110);
        work("sum(iota(3))", 9, 3);
        work("max(iota(3))", 9, 3);
        work("min(iota(3))", 9, 3);
        work("scan(iota(3))", 9, 3);
        work("rev(iota(3))", 9, 3);
        work("rev([[1,2]])", 5 + 2 + 3 + 3, 3);
        work("cat(iota(3),iota(2))", 15, 5);
        work("cat([[1]],[[2]])", 7 + 1 + 2 + 1 + 2 + 4, 4);
        work("flat([iota(3)])", 14, 3);
        work("flat([[[1,2]]])", 6 + 2 + 3 + 4 + 3, 3);
        work("pack(iota(2),[0,1])", 11, 1);
        work("pack([[5,6]],[1])", 7 + 2 + 3 + 1 + 3, 3);
        work("perm(iota(2),[1,0])", 12, 2);
        work("perm([[5,6]],[0])", 7 + 2 + 3 + 1 + 3, 3);
        work("part(iota(2),[0,2])", 14, 4);
        work("part([[5,6]],[0,1])", 8 + 2 + 3 + 2 + 5, 5);
        // Nothing as they end: # [ ] let if a call, and what comes to no items.
        nothing("let s=[5,6] in #s", 8);
        nothing("let s=[5,6] in s[1]", 9);
        nothing("let s=[5,6] in #s+s[1]", 12);
        nothing("let s=[5,6] in if 1 then s else s", 9);
        nothing("iota(0)", 2);
        nothing("sum(iota(0))", 3);
        nothing("rev(iota(0))", 3);
        nothing("dist([1,2],0)", 7);
        nothing("pack([1,2],[0,0])", 11);
        nothing("{1:x in iota(0)}", 3);
    }

    /** It takes so much and is then at its end. */
    private static void nothing(String core, int taken) {
        NestedVectors x = Check.program(Edge.work(WORK - taken) + core);
        Check.due("nested() up to 3000 with " + core, x.nested(), 0);
        Check.due("WORK up to 3000 with " + core, x.meter(0), WORK);
    }

    /** "(behind its own FINDINGS)": they come with WORK used up, and ahead of a COUNT that would not fit. */
    private static void workBehindFindings() {
        found("1/0", 3, 1, Edge.QUOTIENT);
        found("1%0", 3, 1, Edge.QUOTIENT);
        found("[1][1]", 5, 1, Edge.INDEX);
        found("iota(201)", 2, 1, Edge.SIZE);
        found("dist(0,201)", 3, 1, Edge.SIZE);
        found("max(iota(0))", 3, 1, Edge.EMPTY);
        found("min(iota(0))", 3, 1, Edge.EMPTY);
        found("cat(iota(101),iota(100))", 206, 100, Edge.SIZE);
        found("flat([iota(101),iota(100)])", 410, 203, Edge.SIZE);
        found("pack([1],iota(0))", 6, 1, Edge.LENGTH);
        found("perm([1],iota(0))", 6, 1, Edge.LENGTH);
        found("perm([1],[1])", 7, 1, Edge.PERM);
        found("part([1],[2])", 7, 1, Edge.LENGTH);
        found("part([1],[0-1])", 9, 1, Edge.SIZE);
        found("{1:x in [1],y in iota(0)}", 6, 1, Edge.LENGTH);
    }

    /** "COUNT: of a number 0, of a sequence its length and the COUNTS of its items", whatever it came of. */
    private static void countOfWhatCame() {
        count("[1,2]", 5, 2);
        count("[[1,2],iota(0)]", 6 + 2 + 4, 4);
        count("iota(3)", 5, 3);
        count("iota(0)", 2, 0);
        count("dist([1,2],3)", 16, 9);
        count("scan(iota(3))", 9, 3);
        count("rev([[1,2],[3]])", 7 + 3 + 5 + 5, 5);
        count("cat([[1]],[[2,3]])", 8 + 1 + 2 + 2 + 3 + 5, 5);
        count("flat([[[1,2]],[[3]]])", 9 + 2 + 3 + 1 + 2 + 7 + 5, 5);
        count("pack([[1,2],[3]],[0,1])", 10 + 3 + 5 + 2 + 2, 2);
        count("perm([[1,2],[3]],[1,0])", 10 + 3 + 5 + 2 + 5, 5);
        count("part([1,2,3],[1,0,2])", 9 + 3 + 3 + 6, 6);
        count("part([[1,2],[3]],[1,1])", 10 + 3 + 5 + 2 + 7, 7);
        count("part([1,2,3],[1,0,2])[2]", 9 + 3 + 3 + 6 + 2, 2);
        count("part([1,2,3],[1,0,2])[1]", 9 + 3 + 3 + 6 + 2, 0);
        count("part([[1,2],[3]],[1,1])[0]", 10 + 3 + 5 + 2 + 7 + 2, 3);
        count("part([[1,2],[3]],[1,1])[1]", 10 + 3 + 5 + 2 + 7 + 2, 2);
        count("{[x,x]:x in iota(3)}", 3 + 3 + 3 * 5 + 9, 9);
        count("[[1,2],[3]][0]", 8 + 3 + 5, 2);
        count("if 1 then [[1,2]] else [[1]]", 6 + 2 + 3, 3);
    }

    /** It takes so much WORK and has that COUNT, which rev and a row of it take as well. */
    private static void count(String core, int taken, int count) {
        NestedVectors x = Check.program("#(" + core + ")");
        x.nested();
        Check.due("WORK of # of " + core, x.meter(0), taken + 1);
        NestedVectors y = Check.program("rev(" + core + ")");
        y.nested();
        Check.due("WORK of rev of " + core, y.meter(0), taken + 1 + count);
        if (y.about(2) < 3) {
            NestedVectors z = Check.program("[" + core + "]");
            z.nested();
            Check.due("WORK of a row of " + core, z.meter(0), taken + 1 + 1 + count);
        }
    }

    private static void found(String core, int taken, int last, int finding) {
        NestedVectors x = Check.program(Edge.work(WORK - taken) + core);
        Check.due("nested() up to 3000 with " + core, x.nested(), finding);
        Check.due("WORK up to 3000 with " + core, x.meter(0), WORK);
        work(core, taken, last);
    }

    /** Up to the STEP that is looked at: so many STEPS and CELLS, of which so many CELLS are its own. */
    private static void step(String core, int steps, int cells, int last) {
        stepsLimit(core, steps, cells, last);
        cellsLimit(core, steps, cells, last);
    }

    /** "STEPS are 2000 at most (ROOM: a STEP by which one would pass that; both stay then)" */
    private static void stepsLimit(String core, int steps, int cells, int last) {
        NestedVectors x = Check.program(Edge.steps(STEPS - steps) + core);
        int end = x.flat();
        Check.due("STEPS with the last of " + core, x.meter(2), STEPS);
        Check.due("flat() with the last of " + core, end == 0 || end == Edge.ROOM ? 1 : 0, 1);
        Check.due("CELLS with the last of " + core, x.meter(3), taken(Edge.steps(STEPS - steps)) + cells);
        NestedVectors y = Check.program(Edge.steps(STEPS + 1 - steps) + core);
        Check.due("flat() with a STEP of " + core + " too many", y.flat(), Edge.ROOM);
        Check.due("STEPS with a STEP of " + core + " too many", y.meter(2), STEPS);
        int before = taken(Edge.steps(STEPS + 1 - steps));
        Check.due("CELLS with a STEP of " + core + " too many", y.meter(3), before + cells - last);
        Check.due("shown(true) behind ROOM", y.shown(true), Edge.STATE);
        y.nested();
        Check.due("alike() behind ROOM", y.alike(), Edge.STATE);
    }

    /** The CELLS of a beginning. */
    private static int taken(String beginning) {
        NestedVectors x = Check.program(beginning + "z");
        x.flat();
        return x.meter(3);
    }

    /** "CELLS 6000 (ROOM: a STEP by which one would pass that; both stay then)" */
    private static void cellsLimit(String core, int steps, int cells, int last) {
        String fits = Edge.cells(CELLS - cells);
        NestedVectors x = Check.program(fits + core);
        x.flat();
        Check.due("CELLS with the last of " + core, x.meter(3), CELLS);
        Check.due("STEPS with the last of " + core, x.meter(2) >= stepsOf(fits) + steps ? 1 : 0, 1);
        if (last == 0) {
            return;
        }
        String more = Edge.cells(CELLS + 1 - cells);
        NestedVectors y = Check.program(more + core);
        Check.due("flat() with a CELL of " + core + " too many", y.flat(), Edge.ROOM);
        Check.due("CELLS with a CELL of " + core + " too many", y.meter(3), CELLS + 1 - last);
        Check.due("STEPS with a CELL of " + core + " too many", y.meter(2), stepsOf(more) + steps - 1);
        Check.due("shown(true) behind ROOM", y.shown(true), Edge.STATE);
    }

    private static int stepsOf(String beginning) {
        NestedVectors x = Check.program(beginning + "z");
        x.flat();
        return x.meter(2) - 1;
    }

    /** "Each NODE, as it is begun, is a STEP of no CELLS." */
    private static void stepsOfBegins() {
        stepsLimit("7", 1, 0, 0);
        stepsLimit("let x=1 in 2", 1, 0, 0);
        stepsLimit("let x=1 in x", 4, 1, 0);
        stepsLimit("if 1 then 2 else 3", 1, 0, 0);
        stepsLimit("if 1 then 2 else 3", 4, 1, 0);
        stepsLimit("if 1 then 2 else 3", 6, 2, 0);
        stepsLimit("1+2", 1, 0, 0);
        stepsLimit("1+2", 4, 1, 0);
        stepsLimit("#[1]", 1, 0, 0);
        stepsLimit("[1][0]", 1, 0, 0);
        stepsLimit("[1]", 1, 0, 0);
        stepsLimit("iota(1)", 1, 0, 0);
        stepsLimit("a()", 1, 0, 0);
        stepsLimit("a()", 2, 0, 0);
        stepsLimit("{1:x in iota(3)}", 1, 0, 0);
        stepsLimit("{1:x in iota(3)}", 6, 5, 0);
        stepsLimit("{1:x in iota(3)|x}", 6, 5, 0);
    }

    /** "the most LANES (4) in which a NODE was begun": one that has no ROOM to begin was not. */
    private static void lanesOfBegins() {
        NestedVectors x = Check.program(Edge.steps(STEPS - 6) + "{1:x in iota(3)}");
        Check.due("flat() with the begin of a NODE in 3 LANES", x.flat(), Edge.ROOM);
        Check.due("STEPS with that begin", x.meter(2), STEPS);
        Check.due("LANES with that begin", x.meter(4), 3);
        NestedVectors y = Check.program(Edge.steps(STEPS - 5) + "{1:x in iota(3)}");
        Check.due("flat() without the begin of a NODE in 3 LANES", y.flat(), Edge.ROOM);
        Check.due("STEPS without that begin", y.meter(2), STEPS);
        Check.due("LANES without that begin", y.meter(4), 1);
    }

    private static void stepsOfNumbersAndSigns() {
        step("7", 2, 1, 1);
        step("{7:x in iota(3)}", 7, 8, 3);
        step("{x+x:x in iota(3)}", 9, 8, 3);
        for (String sign : "+ - * / % < =".split(" ")) {
            step("1" + sign + "2", 6, 3, 1);
        }
        step("#[1,2]", 8, 6, 1);
        step("[1,2][0]", 10, 7, 1);
        step("[[1,2]][0]", 12, 13, 3);
        step("[1,2]", 6, 5, 3);
        step("[[1,2],[3]]", 12, 14, 6);
    }

    private static void stepsOfReservedWords() {
        step("iota(3)", 4, 5, 4);
        step("iota(0)", 4, 2, 1);
        step("dist(7,3)", 6, 6, 4);
        step("dist([1,2],3)", 10, 16, 10);
        step("dist([1,2],0)", 10, 7, 1);
        step("sum(iota(3))", 6, 6, 1);
        step("max(iota(3))", 6, 6, 1);
        step("min(iota(3))", 6, 6, 1);
        step("scan(iota(3))", 6, 9, 4);
        step("rev(iota(3))", 6, 9, 4);
        step("rev([[1,2]])", 10, 2 + 3 + 4 + 4, 4);
        step("cat(iota(3),iota(2))", 10, 15, 6);
        step("flat([iota(3)])", 8, 14, 4);
        step("pack(iota(2),[0,1])", 12, 11, 2);
        step("perm(iota(2),[1,0])", 12, 12, 3);
        step("part(iota(2),[0,2])", 12, 14, 5);
        step("{iota(x):x in iota(4)}", 8, 6 + 4 + 6, 10);
        step("{sum(iota(x)):x in iota(4)}", 10, 6 + 10 + 4, 4);
    }

    /** "if: behind its first part, for each variable ... a STEP; ...; then a STEP: both put together: its EXTENT." */
    private static void stepsOfChoices() {
        step("if 1 then 2 else 3", 8, 3, 1);
        step("if 1 then iota(3) else iota(2)", 12, 10, 4);
        step("if 0 then iota(3) else iota(2)", 12, 1 + 0 + 4 + 3, 3);
        step("let s=[1,2] in if 1 then s else [3]", 11, 9, 3);
        step("let s=[1,2] in if 0 then [4] else s", 15, 9, 3);
        step("let s=[1,2] in let n=4 in if 1 then s[n] else n", 14, 5 + 1 + 1 + 3, 3);
        step("let s=[1,2] in let n=4 in if 1 then s[n] else n", 15, 5 + 1 + 1 + 3 + 1, 1);
        step("let n=4 in let s=[1,2] in if 1 then s[n] else n", 14, 5 + 1 + 1 + 1, 1);
        step("let n=4 in let s=[1,2] in if 1 then s[n] else n", 15, 5 + 1 + 1 + 1 + 3, 3);
        // In lanes: x in the two where it is not 0, then in the other one, then both together.
        step("{if x then x else x:x in iota(3)}", 8, 5 + 2, 2);
        step("{if x then x else x:x in iota(3)}", 10, 5 + 2 + 1, 1);
        step("{if x then x else x:x in iota(3)}", 12, 5 + 2 + 1 + 3, 3);
    }

    /** "{ }: For each variable of c and b ... a STEP ...; with a c, for each variable of b ... a STEP ...; and a STEP" */
    private static void stepsOfEach() {
        step("let n=9 in {n:x in iota(3)}", 9, 1 + 5 + 3, 3);
        step("let s=[1,2] in {s:x in iota(3)}", 13, 5 + 5 + 9, 9);
        step("let n=9 in {5:x in iota(3)|n}", 9, 1 + 5 + 3, 3);
        step("let s=[1] in let n=9 in {s[n]:x in iota(3)|n}", 14, 3 + 1 + 5 + 6, 6);
        step("let s=[1] in let n=9 in {s[n]:x in iota(3)|n}", 15, 3 + 1 + 5 + 6 + 3, 3);
        step("let n=9 in let s=[1] in {s[n]:x in iota(3)|n}", 14, 3 + 1 + 5 + 3, 3);
        step("let n=9 in let s=[1] in {s[n]:x in iota(3)|n}", 15, 3 + 1 + 5 + 3 + 6, 6);
        // Behind c: outer variables, then GENS in order, then the lengths.
        step("{x:x in iota(3)|x}", 7, 5 + 2, 2);
        step("{x:x in iota(3)|x}", 8, 5 + 2 + 1, 1);
        step("{5:x in iota(3)|x}", 7, 5 + 1, 1);
        step("{5:x in iota(3)|x}", 9, 5 + 1 + 2, 2);
        step("{y+x:x in iota(3),y in iota(3)|x}", 11, 10 + 2, 2);
        step("{y+x:x in iota(3),y in iota(3)|x}", 12, 10 + 2 + 2, 2);
        step("{y+x:x in iota(3),y in iota(3)|x}", 13, 10 + 2 + 2 + 1, 1);
        step("{{5:x in r|x}:r in [iota(3),iota(2)]}", 15, 17 + 2, 2);
        step("let n=9 in {{n:y in iota(x)}:x in iota(4)}", 9, 1 + 6 + 4, 4);
        step("let n=9 in {{n:y in iota(x)}:x in iota(4)}", 14, 1 + 6 + 4 + 10 + 6, 6);
    }

    /** "CELLS of a STEP count ahead of that (as if that LANE, and all others where it comes to one, had 0, or no items)" */
    private static void stepsWithFindings() {
        finds("1/0", 6, 3, 1, Edge.QUOTIENT);
        finds("1%0", 6, 3, 1, Edge.QUOTIENT);
        finds("[1][5]", 8, 5, 1, Edge.INDEX);
        finds("[[1]][5]", 10, 8, 1, Edge.INDEX);
        finds("[[[1]]][5]", 12, 12, 1, Edge.INDEX);
        finds("iota(201)", 4, 2, 1, Edge.SIZE);
        finds("iota(0-1)", 8, 4, 1, Edge.SIZE);
        finds("dist([1],201)", 8, 5, 1, Edge.SIZE);
        finds("max(iota(0))", 6, 3, 1, Edge.EMPTY);
        finds("min(iota(0))", 6, 3, 1, Edge.EMPTY);
        finds("cat(iota(101),iota(100))", 10, 206, 1, Edge.SIZE);
        finds("flat([iota(101),iota(100)])", 12, 410, 1, Edge.SIZE);
        finds("pack([1],[1,2])", 12, 9, 1, Edge.LENGTH);
        finds("perm([1],[0,1])", 12, 9, 1, Edge.LENGTH);
        finds("perm([1,2],[1,1])", 14, 11, 1, Edge.PERM);
        finds("part([1],[2])", 10, 7, 1, Edge.LENGTH);
        finds("part([1],[0-1])", 14, 9, 1, Edge.SIZE);
        // Two lanes with a FINDING, and two with what they come to.
        finds("{10/x:x in [2,0,1,0]}", 10 + 2 + 2 + 2, 9 + 4 + 4, 4, Edge.QUOTIENT);
        finds("{iota(x):x in [2,201,3,202]}", 11 + 1 + 1 + 1, 9 + 4 + 5, 9, Edge.SIZE);
        finds("{dist([7],x):x in [2,201]}", 7 + 1 + 4 + 1 + 1, 5 + 2 + 4 + (2 + 2 + 2), 6, Edge.SIZE);
        finds("{max(iota(x)):x in iota(3)}", 5 + 1 + 3 + 1, 5 + 6 + 3, 3, Edge.EMPTY);
        finds("{perm(iota(2),[x,0]):x in iota(2)}", 5 + 1 + 4 + 5 + 1, 4 + 2 + 6 + 2 + 6 + 4, 4, Edge.PERM);
        finds("{part(iota(1),[x]):x in iota(2)}", 5 + 1 + 4 + 3 + 1, 4 + 2 + 4 + 4 + 4, 4, Edge.LENGTH);
        finds("{pack(iota(x),[1]):x in iota(2)}", 5 + 1 + 3 + 4 + 1, 4 + 3 + 2 + 4 + 3, 3, Edge.LENGTH);
    }

    private static void finds(String core, int steps, int cells, int last, int finding) {
        NestedVectors x = Check.program(core);
        Check.due("flat() of " + core, x.flat(), finding);
        Check.due("STEPS of " + core, x.meter(2), steps);
        Check.due("CELLS of " + core, x.meter(3), cells);
        String more = Edge.cells(CELLS - cells);
        NestedVectors y = Check.program(more + core);
        Check.due("flat() up to 6000 with " + core, y.flat(), finding);
        Check.due("CELLS up to 6000 with " + core, y.meter(3), CELLS);
        NestedVectors z = Check.program(Edge.steps(STEPS - steps) + core);
        Check.due("flat() up to 2000 with " + core, z.flat(), finding);
        Check.due("STEPS up to 2000 with " + core, z.meter(2), STEPS);
        // ROOM comes ahead of it.
        String tooMuch = Edge.cells(CELLS + 1 - cells);
        NestedVectors v = Check.program(tooMuch + core);
        Check.due("flat() beyond 6000 with " + core, v.flat(), Edge.ROOM);
        Check.due("CELLS beyond 6000 with " + core, v.meter(3), CELLS + 1 - last);
        Check.due("STEPS beyond 6000 with " + core, v.meter(2), stepsOf(tooMuch) + steps - 1);
        NestedVectors w = Check.program(Edge.steps(STEPS + 1 - steps) + core);
        Check.due("flat() beyond 2000 with " + core, w.flat(), Edge.ROOM);
        Check.due("STEPS beyond 2000 with " + core, w.meter(2), STEPS);
    }

    /** "(LENGTH of { }: of it, behind GENS)": there is no STEP of its own that could have no ROOM. */
    private static void lengthIsNoStep() {
        String core = "{1:x in [1],y in iota(0)}";
        NestedVectors x = Check.program(core);
        Check.due("flat() of " + core, x.flat(), Edge.LENGTH);
        Check.due("STEPS of " + core, x.meter(2), 9);
        Check.due("CELLS of " + core, x.meter(3), 5);
        Check.due("LANES of " + core, x.meter(4), 1);
        NestedVectors y = Check.program(Edge.steps(STEPS - 9) + core);
        Check.due("flat() with STEPS used up", y.flat(), Edge.LENGTH);
        Check.due("STEPS used up", y.meter(2), STEPS);
        NestedVectors z = Check.program(Edge.cells(CELLS - 5) + core);
        Check.due("flat() with CELLS used up", z.flat(), Edge.LENGTH);
        Check.due("CELLS used up", z.meter(3), CELLS);
    }

    /** "a variable, let, call of a DEF: none", and STEPS of no CELLS, with CELLS used up. */
    private static void noStepAtAll() {
        String def = "def f(p:[int])=p;";
        NestedVectors x = Check.program(def + Edge.cells(CELLS - 5) + "let s=iota(3) in f(s)");
        Check.due("flat() with 6000 CELLS", x.flat(), 0);
        Check.due("CELLS of it", x.meter(3), CELLS);
        Check.due("what it came to", Check.text(x, true), "[0,1,2]");
        NestedVectors y = Check.program(Edge.cells(CELLS - 7) + "{{x:x in r}:r in [iota(0),iota(0)]}");
        Check.due("flat() of { } with 6000 CELLS", y.flat(), 0);
        Check.due("CELLS of { }", y.meter(3), CELLS);
        Check.due("what { } came to", Check.text(y, true), "[[],[]]");
        // Without LANES no STEP has CELLS, so all of them fit.
        NestedVectors z = Check.program(Edge.cells(CELLS - 2) + "{[x+1,#iota(5)]:x in iota(0)|x<7}");
        Check.due("flat() without LANES", z.flat(), Edge.ROOM);
        NestedVectors v = Check.program(Edge.cells(CELLS - 3) + "{[x+1,#iota(5)]:x in iota(0)|x<7}");
        Check.due("flat() without LANES but for the lengths", v.flat(), 0);
        Check.due("its CELLS", v.meter(3), CELLS);
        // The limit of the one is not that of the other.
        NestedVectors w = Check.program(Edge.steps(STEPS - 1) + "z");
        Check.due("flat() with 2000 STEPS", w.flat(), 0);
        Check.due("2000 STEPS", w.meter(2), STEPS);
    }

    /** "both stay then": a run that has no ROOM leaves a later one as much as the first had. */
    private static void bothStay() {
        NestedVectors x = Check.program("dist(dist(iota(200),200),200)");
        for (int i = 0; i < 3; i++) {
            Check.due("flat()", x.flat(), Edge.ROOM);
            Check.due("STEPS", x.meter(2), 8);
            Check.due("CELLS", x.meter(3), 203);
            Check.due("LANES", x.meter(4), 1);
            Check.due("nested()", x.nested(), Edge.OVER);
            Check.due("WORK", x.meter(0), 205);
        }
        Check.feed(x, Edge.cells(CELLS - 1) + "7");
        x.read();
        Check.due("flat() behind ROOM", x.flat(), 0);
        Check.due("CELLS behind ROOM", x.meter(3), CELLS);
        Check.feed(x, Edge.work(WORK - 1) + "7");
        x.read();
        Check.due("nested() behind OVER", x.nested(), 0);
        Check.due("WORK behind OVER", x.meter(0), WORK);
    }
}
