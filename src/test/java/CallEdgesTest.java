/** The edges of promises 4 to 13: what is refused, with which answer, and that it changes nothing. */
public final class CallEdgesTest {
    private static final int NONE = Edge.NONE, BAD = Edge.BAD, FULL = Edge.FULL, STATE = Edge.STATE;
    private static final int LEAST = Integer.MIN_VALUE, MOST = Integer.MAX_VALUE;

    public static void main(String[] args) {
        readTakesThePlace();
        readKeepsTheTape();
        faultOfTheLatest();
        aboutEdges();
        nodeEdges();
        nodePlaces();
        twentyNested();
        twentyFlat();
        whatCountsAsARun();
        meterEdges();
        meterOfTheLatest();
        spans();
        lanes();
        shownEdges();
        byteAtEdges();
        first2000();
        alikeEdges();
        Check.end();
    }

    /** "how many NODES ...; it takes the place of the one before, there are no RUNS any more", THE TAPE "empty then". */
    private static void readTakesThePlace() {
        NestedVectors x = Check.program("def f()=[1]; f()");
        x.nested();
        x.flat();
        Check.feed(x, "7");
        Check.due("alike() till the next read", x.alike(), 1);
        Check.due("about(1) till the next read", x.about(1), 1);
        Check.due("read() of 7", x.read(), 1);
        Edge.noRuns(x, " behind the next read");
        Check.due("about(0) of 7", x.about(0), 1);
        Check.due("about(1) of 7", x.about(1), 0);
        Check.due("about(2) of 7", x.about(2), 0);
        Check.due("about(3) of 7", x.about(3), 0);
        Check.due("node(0, 0) of 7", x.node(0, 0), 0);
        Check.due("node(1, 0) of 7", x.node(1, 0), NONE);
        // The tape is empty: one more read has nothing to read, and takes the program away.
        Check.due("read() of nothing", x.read(), -100);
        Check.due("fault() of nothing", x.fault(), 1);
        Edge.noProgram(x, " behind a read of nothing");
    }

    /** "-100 less the PLACE of THE FAULT: there is no PROGRAM then, no RUN; THE TAPE stays." */
    private static void readKeepsTheTape() {
        NestedVectors x = Check.program("[7]");
        x.nested();
        x.flat();
        Check.feed(x, "12+");
        Check.due("read() of 12+", x.read(), -103);
        Edge.noProgram(x, " behind a fault");
        Check.due("feed behind a fault", x.feed('3'), 4);
        Check.due("read() of 12+3", x.read(), 3);
        Check.due("nested() of 12+3", x.nested(), 0);
        Check.due("12+3", Check.text(x, false), "15");
        // The least and the greatest PLACE.
        Check.due("read() with a fault at 0", Check.fresh(")").read(), -100);
        Check.due("read() with a fault at 1200", Check.fresh("(" + " ".repeat(1199)).read(), -1300);
    }

    /** "What THE FAULT of the latest read() was: 0 none (and ahead of any), 1 SYNTAX, 2 NAMED, 3 TYPED." */
    private static void faultOfTheLatest() {
        NestedVectors x = new NestedVectors();
        String[] texts = {")", "x", "#1", "1", "#1", "x", ")", "1", "x", "1", "#1", "1"};
        int[] faults = {1, 2, 3, 0, 3, 2, 1, 0, 2, 0, 3, 0};
        Check.due("fault() ahead of any", x.fault(), 0);
        for (int i = 0; i < texts.length; i++) {
            int before = x.fault();
            Check.feed(x, texts[i]);
            Check.due("fault() behind a feed", x.fault(), before);
            x.read();
            Check.due("fault() of " + texts[i], x.fault(), faults[i]);
            x.nested();
            x.flat();
            x.cut(0);
            Check.due("fault() of " + texts[i] + " stays", x.fault(), faults[i]);
        }
    }

    /** "0 NODES, 1 DEFS, 2 DEPTH, 3 bytes of THE TAPE; of 0 to 2 STATE: no PROGRAM. BAD." */
    private static void aboutEdges() {
        NestedVectors x = new NestedVectors();
        int[] wrong = {-1, 4, 5, LEAST, MOST};
        for (int what : wrong) {
            Check.due("about(" + what + ") of a new object", x.about(what), BAD);
        }
        Check.due("about(0) of a new object", x.about(0), STATE);
        Check.due("about(2) of a new object", x.about(2), STATE);
        Check.due("about(3) of a new object", x.about(3), 0);
        Check.feed(x, "def f()=1; [f()]");
        Check.due("about(0) ahead of read", x.about(0), STATE);
        Check.due("about(3) ahead of read", x.about(3), 16);
        x.read();
        Check.due("about(0)", x.about(0), 3);
        Check.due("about(1)", x.about(1), 1);
        Check.due("about(2)", x.about(2), 1);
        Check.due("about(3)", x.about(3), 0);
        for (int what : wrong) {
            Check.due("about(" + what + ")", x.about(what), BAD);
        }
    }

    /** "STATE: no PROGRAM; NONE: no such; BAD: what." */
    private static void nodeEdges() {
        NestedVectors x = new NestedVectors();
        Check.due("node(0, 0) of a new object", x.node(0, 0), STATE);
        Check.due("node(-1, 0) of a new object", x.node(-1, 0), STATE);
        Check.due("node(0, 2) of a new object", x.node(0, 2), STATE);
        Check.feed(x, " [5]");
        x.read();
        Check.due("node(0, 0)", x.node(0, 0), 1);
        Check.due("node(0, 1)", x.node(0, 1), 1);
        Check.due("node(1, 0)", x.node(1, 0), 2);
        Check.due("node(1, 1)", x.node(1, 1), 0);
        int[] none = {-1, 2, 3, 199, 200, 201, LEAST, MOST};
        for (int k : none) {
            Check.due("node(" + k + ", 0)", x.node(k, 0), NONE);
            Check.due("node(" + k + ", 1)", x.node(k, 1), NONE);
        }
        int[] wrong = {-1, 2, 3, LEAST, MOST};
        for (int what : wrong) {
            Check.due("node(0, " + what + ")", x.node(0, what), BAD);
            Check.due("node(1, " + what + ")", x.node(1, what), BAD);
        }
    }

    /** "NODE k, in the order of their PLACES": "that of its TOKEN told here, or its first one". */
    private static void nodePlaces() {
        places("1 + 2 * 3", 0, 2, 4, 6, 8);
        places("1 * 2 + 3", 0, 2, 4, 6, 8);
        places("(1 + 2) * 3", 1, 3, 5, 8, 10);
        places("1 < 2", 0, 2, 4);
        places("1 = 2", 0, 2, 4);
        places("# [5]", 0, 2, 3);
        places("[[5]] [0] [0]", 0, 1, 2, 6, 7, 10, 11);
        places("let x = 1 in x", 0, 8, 13);
        places("if 1 then 2 else 3", 0, 3, 10, 17);
        places("dist( 1 , 2 )", 0, 6, 10);
        places("def f ( p : int ) = p ; f ( 5 )", 20, 24, 28);
        places("{ x + y : x in [1] , y in [2] | x }", 0, 2, 4, 6, 15, 16, 26, 27, 32);
    }

    private static void places(String text, int... due) {
        NestedVectors x = Check.program(text);
        Check.due("about(0) of " + text, x.about(0), due.length);
        for (int k = 0; k < due.length; k++) {
            Check.due("node(" + k + ", 0) of " + text, x.node(k, 0), due[k]);
        }
        Check.due("node(" + due.length + ", 0) of " + text, x.node(due.length, 0), NONE);
    }

    /** "FULL: 20 of them began (of all PROGRAMS)" */
    private static void twentyNested() {
        NestedVectors x = Check.program("1");
        for (int i = 1; i <= 19; i++) {
            Check.due("nested() " + i, x.nested(), 0);
        }
        Check.feed(x, "[8]");
        x.read();
        Check.due("nested() ahead of the last", x.meter(0), STATE);
        Check.due("nested() 20", x.nested(), 0);
        Check.due("nested() 21", x.nested(), FULL);
        Check.due("nested() 22", x.nested(), FULL);
        Check.due("the 20th run stays", Check.text(x, false), "[8]");
        Check.due("its WORK stays", x.meter(0), 3);
        Check.due("its SPAN stays", x.meter(1), 2);
        Check.due("flat() has its own", x.flat(), 0);
        Check.due("alike()", x.alike(), 1);
        Check.feed(x, "9");
        x.read();
        Check.due("nested() of the next program", x.nested(), FULL);
        Check.due("there is none of it", x.meter(0), STATE);
        Check.due("there is nothing shown of it", x.shown(false), STATE);
        Check.due("read() of nothing", x.read(), -100);
        Check.due("nested() without a program", x.nested(), STATE);
    }

    /** "STATE, FULL: likewise, 20 of its own." */
    private static void twentyFlat() {
        NestedVectors x = Check.program("1");
        for (int i = 1; i <= 19; i++) {
            Check.due("flat() " + i, x.flat(), 0);
        }
        Check.feed(x, "[8]");
        x.read();
        Check.due("flat() 20", x.flat(), 0);
        Check.due("flat() 21", x.flat(), FULL);
        Check.due("flat() 22", x.flat(), FULL);
        Check.due("the 20th run stays", Check.text(x, true), "[8]");
        Check.due("its STEPS stay", x.meter(2), 4);
        Check.due("its CELLS stay", x.meter(3), 3);
        Check.due("nested() has its own", x.nested(), 0);
        Check.due("alike()", x.alike(), 1);
        Check.feed(x, "9");
        x.read();
        Check.due("flat() of the next program", x.flat(), FULL);
        Check.due("there is none of it", x.meter(2), STATE);
        Check.due("nested() of the next program", x.nested(), 0);
        Check.due("alike() without a flat run", x.alike(), STATE);
        Check.due("read() of nothing", x.read(), -100);
        Check.due("flat() without a program", x.flat(), STATE);
    }

    /** One that ends by a FINDING began; one without a PROGRAM did not. */
    private static void whatCountsAsARun() {
        NestedVectors x = new NestedVectors();
        for (int i = 0; i < 30; i++) {
            Check.due("nested() of a new object", x.nested(), STATE);
            Check.due("flat() of a new object", x.flat(), STATE);
        }
        Check.feed(x, "1/0");
        x.read();
        for (int i = 0; i < 10; i++) {
            Check.due("nested() with a finding", x.nested(), Edge.QUOTIENT);
            Check.due("flat() with a finding", x.flat(), Edge.QUOTIENT);
        }
        Check.feed(x, "dist(dist(iota(200),200),200)");
        x.read();
        for (int i = 0; i < 10; i++) {
            Check.due("nested() with OVER", x.nested(), Edge.OVER);
            Check.due("flat() with ROOM", x.flat(), Edge.ROOM);
        }
        Check.due("nested() behind 20", x.nested(), FULL);
        Check.due("flat() behind 20", x.flat(), FULL);
        Check.due("the 20th nested run stays", x.meter(0), 205);
        Check.due("the 20th flat run stays", x.meter(3), 203);
    }

    /** "what = 0 .. 4"; "STATE: there was none. BAD." */
    private static void meterEdges() {
        int[] wrong = {-1, 5, 6, LEAST, MOST};
        NestedVectors x = new NestedVectors();
        for (int what : wrong) {
            Check.due("meter(" + what + ") of a new object", x.meter(what), BAD);
        }
        Check.feed(x, "[7]");
        x.read();
        Edge.noRuns(x, " ahead of runs");
        x.nested();
        int[] nested = {3, 2, STATE, STATE, STATE};
        int[] both = {3, 2, 4, 3, 1};
        for (int what = 0; what < 5; what++) {
            Check.due("meter(" + what + ") behind nested()", x.meter(what), nested[what]);
        }
        x.flat();
        for (int what = 0; what < 5; what++) {
            Check.due("meter(" + what + ") behind both", x.meter(what), both[what]);
        }
        for (int what : wrong) {
            Check.due("meter(" + what + ") behind both", x.meter(what), BAD);
        }
        NestedVectors y = Check.program("[7]");
        y.flat();
        int[] flat = {STATE, STATE, 4, 3, 1};
        for (int what = 0; what < 5; what++) {
            Check.due("meter(" + what + ") behind flat()", y.meter(what), flat[what]);
        }
    }

    /** "SPAN (1; STATE: it ended by a FINDING)", all others "till its end". */
    private static void meterOfTheLatest() {
        NestedVectors x = Check.program("[1,2/0,3]");
        x.nested();
        x.flat();
        int[] due = {5, STATE, 9, 4, 1};
        for (int what = 0; what < 5; what++) {
            Check.due("meter(" + what + ") of [1,2/0,3]", x.meter(what), due[what]);
        }
        Check.feed(x, "1");
        x.read();
        x.nested();
        x.flat();
        int[] next = {1, 1, 2, 1, 1};
        for (int what = 0; what < 5; what++) {
            Check.due("meter(" + what + ") of 1", x.meter(what), next[what]);
        }
        x.nested();
        x.flat();
        for (int what = 0; what < 5; what++) {
            Check.due("meter(" + what + ") of 1 once more", x.meter(what), next[what]);
        }
    }

    private static void span(String text, int due) {
        NestedVectors x = Check.program(text);
        Check.due("nested() of " + text, x.nested(), 0);
        Check.due("SPAN of " + text, x.meter(1), due);
    }

    /** "1 and those of its parts that were worked out ...; of { } ... the greatest that a place has (0 without places)" */
    private static void spans() {
        span("1", 1);
        span("iota(0)", 2);
        span("[1,2,3]", 4);
        span("if 1 then 2 else 3+4+5", 3);
        span("if 0 then 2 else 3+4+5", 7);
        span("def f(p:int)=p+1; f(2)", 5);
        span("def f()=1; [f(),f()]", 5);
        span("{x+1:x in iota(0)}", 3);
        span("{x+1:x in iota(1)}", 6);
        span("{x+1:x in iota(200)}", 6);
        // The greatest is the first place's, one's in the middle, the last one's.
        span("{if x then x+x+x else 0:x in [1,0,0]}", 1 + 4 + 7);
        span("{if x then x+x+x else 0:x in [0,1,0]}", 1 + 4 + 7);
        span("{if x then x+x+x else 0:x in [0,0,1]}", 1 + 4 + 7);
        span("{if x then x+x+x else 0:x in [0,0,0]}", 1 + 4 + 3);
        // c and b together, of one place: c may be greater where b is not worked out.
        span("{x:x in [0,1]|if x then 1 else 0+0+0}", 1 + 3 + 7);
        span("{x+x+x+x:x in [0,1]|if x then 1 else 0+0+0}", 1 + 3 + 3 + 7);
        span("{x:x in [0,0]|x}", 1 + 3 + 1);
        span("{x:x in iota(0)|x}", 1 + 2);
        span("{{y:y in iota(x)}:x in iota(3)}", 1 + 2 + (1 + 2 + 1));
        span("{{y:y in iota(x)}:x in dist(0,3)}", 1 + 3 + (1 + 2 + 0));
        span("1+#{x:x in iota(2)}+2", 1 + 1 + 1 + 1 + (1 + 2 + 1) + 1);
        span("{a+b:a in rev([1,2]),b in [3,4]}", 1 + 4 + 3 + 3);
    }

    private static void most(String text, int due) {
        NestedVectors x = Check.program(text);
        x.flat();
        Check.due("LANES of " + text, x.meter(4), due);
    }

    /** "the most LANES (4) in which a NODE was begun"; "the PROGRAM's EXPR has 1 LANE" */
    private static void lanes() {
        most("1", 1);
        most("iota(200)", 1);
        most("{1:x in iota(0)}", 1);
        most("{1:x in iota(1)}", 1);
        most("{1:x in iota(2)}", 2);
        most("{1:x in iota(200)}", 200);
        most("{1:x in iota(9)|x<3}", 9);
        most("{{1:y in iota(x)}:x in iota(3)}", 3);
        most("{{1:y in iota(x)}:x in iota(4)}", 6);
        most("{{{1:z in iota(3)}:y in iota(2)}:x in iota(2)}", 12);
        most("{if x then 1 else 2:x in iota(5)}", 5);
        most("if 0 then 1 else 2", 1);
        most("[#{1:x in iota(7)},#{1:x in iota(3)}]", 7);
        most("[#{1:x in iota(3)},#{1:x in iota(7)}]", 7);
        // A NODE is begun in 4000 LANES, though there is no ROOM for what comes of it.
        most("{{0:y in iota(200)}:x in iota(20)}", 4000);
        // LENGTH ends it ahead of the LANES.
        most("{1:x in iota(5),y in iota(6)}", 1);
    }

    /** "STATE: there was none, or a FINDING." */
    private static void shownEdges() {
        NestedVectors x = Check.program("[12,0-3]");
        Check.due("shown(false) ahead of runs", x.shown(false), STATE);
        Check.due("shown(true) ahead of runs", x.shown(true), STATE);
        x.nested();
        Check.due("shown(false)", x.shown(false), 7);
        Check.due("shown(true) ahead of flat()", x.shown(true), STATE);
        x.flat();
        Check.due("shown(true)", x.shown(true), 7);
        Check.due("nested text", Check.text(x, false), "[12,-3]");
        Check.due("flat text", Check.text(x, true), "[12,-3]");
        NestedVectors y = Check.program("{[1/x,[1][x]]:x in [1,0]}");
        y.nested();
        y.flat();
        Check.due("shown(false) of a finding", y.shown(false), STATE);
        Check.due("shown(true) of a finding", y.shown(true), STATE);
        Edge.comes("0", "0");
        Edge.comes("0-1", "-1");
        Edge.comes("9", "9");
        Edge.comes("10", "10");
        Edge.comes("0-2147483*1000-648", "-2147483648");
        Edge.comes("2147483*1000+647", "2147483647");
        Edge.comes("iota(0)", "[]");
        Edge.comes("[iota(0)]", "[[]]");
        Edge.comes("[[iota(0)]]", "[[[]]]");
        Edge.comes("[[iota(0),[1]],dist([1],0)]", "[[[],[1]],[]]");
    }

    /** "Byte i of these; NONE. STATE." */
    private static void byteAtEdges() {
        NestedVectors x = Check.program("[7]");
        int[] all = {-1, 0, 2, 3, 2000, LEAST, MOST};
        for (int i : all) {
            Check.due("byteAt(false, " + i + ") ahead of runs", x.byteAt(false, i), STATE);
            Check.due("byteAt(true, " + i + ") ahead of runs", x.byteAt(true, i), STATE);
        }
        x.nested();
        Check.due("byteAt(true, 0) behind nested()", x.byteAt(true, 0), STATE);
        x.flat();
        for (int run = 0; run < 2; run++) {
            boolean flat = run == 1;
            Check.due("byteAt 0", x.byteAt(flat, 0), '[');
            Check.due("byteAt 1", x.byteAt(flat, 1), '7');
            Check.due("byteAt 2", x.byteAt(flat, 2), ']');
            int[] none = {-1, 3, 4, 1999, 2000, LEAST, MOST};
            for (int i : none) {
                Check.due("byteAt " + i, x.byteAt(flat, i), NONE);
            }
        }
        NestedVectors y = Check.program("1/0");
        y.nested();
        y.flat();
        for (int i : all) {
            Check.due("byteAt(false, " + i + ") of a finding", y.byteAt(false, i), STATE);
            Check.due("byteAt(true, " + i + ") of a finding", y.byteAt(true, i), STATE);
        }
    }

    /** "of the first 2000", while shown() tells "how many bytes" there are in all. */
    private static void first2000() {
        // 199 numbers of 9 digits and one of so many: 1 + 199 * 10 + digits + 1 bytes.
        String[] last = {"1234567", "12345678", "123456789"};
        for (int i = 0; i < 3; i++) {
            NestedVectors x = Check.program("cat(dist(999999999,199),[" + last[i] + "])");
            x.nested();
            x.flat();
            int bytes = 1999 + i;
            for (int run = 0; run < 2; run++) {
                boolean flat = run == 1;
                Check.due("shown of " + bytes, x.shown(flat), bytes);
                Check.due("byteAt 1998 of " + bytes, x.byteAt(flat, 1998), i == 0 ? ']' : '8');
                Check.due("byteAt 1999 of " + bytes, x.byteAt(flat, 1999), i == 0 ? NONE : i == 1 ? ']' : '9');
                Check.due("byteAt 2000 of " + bytes, x.byteAt(flat, 2000), NONE);
                Check.due("byteAt 2001 of " + bytes, x.byteAt(flat, 2001), NONE);
            }
            Check.due("alike() of " + bytes, x.alike(), 1);
        }
        // The longest text: numbers of 11 bytes, as many as WORK leaves.
        NestedVectors x = Check.program("dist(dist(0-2147483*1000-648,64),45)");
        Check.due("nested() of a long text", x.nested(), 0);
        Check.due("flat() of a long text", x.flat(), 0);
        int due = longText().length();
        Check.due("WORK of a long text", x.meter(0), 3000);
        Check.due("shown(false) of a long text", x.shown(false), due);
        Check.due("shown(true) of a long text", x.shown(true), due);
        Check.due("alike() of a long text", x.alike(), 1);
        Check.due("byteAt(false, 1999) of a long text", x.byteAt(false, 1999), longText().charAt(1999));
        Check.due("byteAt(false, 2000) of a long text", x.byteAt(false, 2000), NONE);
        Check.due("the last byte of a long text", x.byteAt(true, due - 1), NONE);
    }

    private static String longText() {
        String one = "[" + "-2147483648,".repeat(63) + "-2147483648]";
        return "[" + (one + ",").repeat(44) + one + "]";
    }

    private static void alike(String text, int nested, int flat, int due) {
        NestedVectors x = Check.program(text);
        Check.due("alike() ahead of runs of " + text, x.alike(), STATE);
        Check.due("nested() of " + text, x.nested(), nested);
        Check.due("alike() behind nested() of " + text, x.alike(), STATE);
        Check.due("flat() of " + text, x.flat(), flat);
        Check.due("alike() of " + text, x.alike(), due);
        NestedVectors y = Check.program(text);
        Check.due("flat() alone of " + text, y.flat(), flat);
        Check.due("alike() behind flat() of " + text, y.alike(), STATE);
        Check.due("nested() behind flat() of " + text, y.nested(), nested);
        Check.due("alike() of both of " + text, y.alike(), due);
    }

    /** "1 they came to the same, 2 both to a FINDING ... STATE: one was not, or ended by OVER, ROOM." */
    private static void alikeEdges() {
        alike("1", 0, 0, 1);
        alike("[[1],iota(0)]", 0, 0, 1);
        alike("1/0", Edge.QUOTIENT, Edge.QUOTIENT, 2);
        alike("{[1/x,[1][x]]:x in [1,0]}", Edge.INDEX, Edge.QUOTIENT, 2);
        alike("dist(iota(80),40)", Edge.OVER, 0, STATE);
        alike("{let s=iota(9) in let t=rev(s) in [#s,#t,s[0]]:x in iota(60)}", 0, 0, 1);
        alike("dist(dist(iota(200),200),200)", Edge.OVER, Edge.ROOM, STATE);
        alike("{if x then #dist(iota(200),50) else 1/0:x in [0,1]}", Edge.QUOTIENT, Edge.ROOM, STATE);
        alike("{1/x+#dist(iota(80),40):x in [1,0]}", Edge.OVER, Edge.QUOTIENT, STATE);
        alike(Edge.steps(2000) + "7", 0, Edge.ROOM, STATE);
    }
}
