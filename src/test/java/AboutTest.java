/** Promises 6 and 7: about and node. */
public final class AboutTest {
    public static void main(String[] args) {
        about();
        places();
        depths();
        wrongInputs();
        Check.end();
    }

    private static void about() {
        NestedVectors x = Check.program("def f(a:[int])=sum(a); def g()=[[1]]; {f(r):r in g()}");
        Check.due("about(0)", x.about(0), 2 + 3 + 4);
        Check.due("about(1)", x.about(1), 2);
        Check.due("about(2)", x.about(2), 1);
        Check.due("about(3)", x.about(3), 0);
        Check.feed(x, "[[[1]]]");
        Check.due("about(3) of seven bytes", x.about(3), 7);
        Check.due("about(0) till the next read", x.about(0), 9);
        x.read();
        Check.due("about(0) of the next", x.about(0), 4);
        Check.due("about(1) of the next", x.about(1), 0);
        Check.due("about(2) of the next", x.about(2), 3);
        Check.due("about(4)", x.about(4), NestedVectors.BAD);
        Check.due("about(-1)", x.about(-1), NestedVectors.BAD);
        Check.due("about(min)", x.about(Integer.MIN_VALUE), NestedVectors.BAD);
        Check.due("about(max)", x.about(Integer.MAX_VALUE), NestedVectors.BAD);
        NestedVectors none = Check.fresh("1");
        Check.due("about(0) of none", none.about(0), NestedVectors.STATE);
        Check.due("about(1) of none", none.about(1), NestedVectors.STATE);
        Check.due("about(2) of none", none.about(2), NestedVectors.STATE);
        Check.due("about(3) of none", none.about(3), 1);
        Check.due("about(4) of none", none.about(4), NestedVectors.BAD);
        Check.due("about(-9) of none", none.about(-9), NestedVectors.BAD);
    }

    private static void nodes(String text, int... placesAndDepths) {
        NestedVectors x = Check.program(text);
        Check.due("about(0) of " + text, x.about(0), placesAndDepths.length / 2);
        for (int k = 0; k < placesAndDepths.length / 2; k++) {
            Check.due("node(" + k + ", 0) of " + text, x.node(k, 0), placesAndDepths[2 * k]);
            Check.due("node(" + k + ", 1) of " + text, x.node(k, 1), placesAndDepths[2 * k + 1]);
        }
    }

    private static void places() {
        nodes(" 7", 1, 0);
        nodes("(1)+(2)*3", 1, 0, 3, 0, 5, 0, 7, 0, 8, 0);
        nodes("1<2", 0, 0, 1, 0, 2, 0);
        nodes("let x=[1] in #x", 0, 0, 6, 1, 7, 0, 13, 0, 14, 1);
        nodes("if 1 then 2 else 3", 0, 0, 3, 0, 10, 0, 17, 0);
        nodes("[[5]][0][0]", 0, 2, 1, 1, 2, 0, 5, 1, 6, 0, 8, 0, 9, 0);
        nodes("{x+1:x in iota(3)|x<2}", 0, 1, 1, 0, 2, 0, 3, 0, 10, 1, 15, 0, 18, 0, 19, 0, 20, 0);
        nodes("def f(p:int)=dist(p,2); f(4)", 13, 1, 18, 0, 20, 0, 24, 1, 26, 0);
    }

    private static void depths() {
        nodes("part(part([1],[1]),[1])", 0, 3, 5, 2, 10, 1, 11, 0, 14, 1, 15, 0, 19, 1, 20, 0);
        nodes("flat([[1]])", 0, 1, 5, 2, 6, 1, 7, 0);
        nodes("max(scan(rev(iota(2))))", 0, 0, 4, 1, 9, 1, 13, 1, 18, 0);
        nodes("cat(pack([1],[1]),perm([1],[0]))", 0, 1, 4, 1, 9, 1, 10, 0, 13, 1, 14, 0, 18, 1, 23, 1, 24, 0, 27, 1, 28, 0);
        nodes("let s=[[1]] in {r:r in s}", 0, 2, 6, 2, 7, 1, 8, 0, 15, 2, 16, 1, 23, 2);
    }

    private static void wrongInputs() {
        NestedVectors none = new NestedVectors();
        Check.due("node(0, 0) of none", none.node(0, 0), NestedVectors.STATE);
        Check.due("node(-1, 7) of none", none.node(-1, 7), NestedVectors.STATE);
        NestedVectors x = Check.program("1+2");
        Check.due("node(3, 0)", x.node(3, 0), NestedVectors.NONE);
        Check.due("node(-1, 0)", x.node(-1, 0), NestedVectors.NONE);
        Check.due("node(min, 1)", x.node(Integer.MIN_VALUE, 1), NestedVectors.NONE);
        Check.due("node(max, 1)", x.node(Integer.MAX_VALUE, 1), NestedVectors.NONE);
        Check.due("node(0, 2)", x.node(0, 2), NestedVectors.BAD);
        Check.due("node(2, -1)", x.node(2, -1), NestedVectors.BAD);
        Check.due("node(2, max)", x.node(2, Integer.MAX_VALUE), NestedVectors.BAD);
        // A shorter program leaves nothing of a longer one behind.
        Check.feed(x, "5");
        x.read();
        Check.due("node(1, 0) of one node", x.node(1, 0), NestedVectors.NONE);
    }
}
