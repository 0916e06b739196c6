/**
 * What the tests of edges share: a text that is read, or is not, with all that later calls show of the state,
 * and beginnings of programs that use up just so many CELLS, STEPS or WORK.
 */
final class Edge {
    static final int NONE = NestedVectors.NONE, BAD = NestedVectors.BAD;
    static final int FULL = NestedVectors.FULL, STATE = NestedVectors.STATE;
    static final int SYNTAX = 1, NAMED = 2, TYPED = 3;
    static final int QUOTIENT = 1, INDEX = 2, LENGTH = 3, EMPTY = 4, SIZE = 5, PERM = 6, OVER = 7, ROOM = 8;

    private static final String DEFS = "def a()=1+1+1+1+1;def b()=a()+a()+a()+a()+a();def c()=b()+b()+b()+b();";

    private Edge() {
    }

    /** The text is a program of so many nodes, which takes the place of the one before. */
    static void reads(String text, int nodes) {
        NestedVectors x = Check.program("[[7]]");
        x.nested();
        x.flat();
        Check.feed(x, text);
        String of = " of " + text;
        Check.due("read()" + of, x.read(), nodes);
        Check.due("fault()" + of, x.fault(), 0);
        Check.due("about(0)" + of, x.about(0), nodes);
        Check.due("about(3)" + of, x.about(3), 0);
        Check.due("the node behind the last" + of, x.node(nodes, 0), NONE);
        noRuns(x, of);
    }

    /** The text has that fault: no program and no run are left, the tape stays, and can be used on. */
    static void faults(String text, int kind, int place) {
        NestedVectors x = Check.program("[[7]]");
        x.nested();
        x.flat();
        Check.feed(x, text);
        String of = " of " + text;
        for (int time = 0; time < 2; time++) {
            Check.due("read()" + of, x.read(), -100 - place);
            Check.due("fault()" + of, x.fault(), kind);
            Check.due("about(3)" + of, x.about(3), text.length());
        }
        noProgram(x, of);
        Check.due("cut(0)" + of, x.cut(0), text.length());
        Check.due("fault() behind a cut" + of, x.fault(), kind);
        Check.feed(x, "8");
        Check.due("read() of 8 behind that" + of, x.read(), 1);
        Check.due("fault() of 8 behind that" + of, x.fault(), 0);
        Check.due("nested() of 8 behind that" + of, x.nested(), 0);
        Check.due("flat() of 8 behind that" + of, x.flat(), 0);
        Check.due("8 behind that" + of, Check.text(x, true), "8");
    }

    static void noProgram(NestedVectors x, String of) {
        for (int what = 0; what < 3; what++) {
            Check.due("about(" + what + ") without a program" + of, x.about(what), STATE);
        }
        Check.due("node(0, 0) without a program" + of, x.node(0, 0), STATE);
        Check.due("nested() without a program" + of, x.nested(), STATE);
        Check.due("flat() without a program" + of, x.flat(), STATE);
        noRuns(x, of);
    }

    static void noRuns(NestedVectors x, String of) {
        for (int what = 0; what < 5; what++) {
            Check.due("meter(" + what + ") without a run" + of, x.meter(what), STATE);
        }
        for (int run = 0; run < 2; run++) {
            Check.due("shown(" + (run == 1) + ") without a run" + of, x.shown(run == 1), STATE);
            Check.due("byteAt(" + (run == 1) + ", 0) without a run" + of, x.byteAt(run == 1, 0), STATE);
        }
        Check.due("alike() without a run" + of, x.alike(), STATE);
    }

    /** Both runs come to that. */
    static void comes(String text, String due) {
        NestedVectors x = Check.program(text);
        Check.due("nested() of " + text, x.nested(), 0);
        Check.due("flat() of " + text, x.flat(), 0);
        Check.due("nested text of " + text, Check.text(x, false), due);
        Check.due("flat text of " + text, Check.text(x, true), due);
        Check.due("alike() of " + text, x.alike(), 1);
    }

    static void ends(String text, int finding) {
        ends(text, finding, finding);
    }

    /** Each run ends by its finding; then there is nothing to be shown, and no SPAN, but the meters stand. */
    static void ends(String text, int nested, int flat) {
        NestedVectors x = Check.program(text);
        Check.due("nested() of " + text, x.nested(), nested);
        Check.due("flat() of " + text, x.flat(), flat);
        Check.due("meter(0) is told of " + text, x.meter(0) > 0 ? 1 : 0, 1);
        Check.due("meter(1) of " + text, x.meter(1), STATE);
        Check.due("meter(2) is told of " + text, x.meter(2) > 0 ? 1 : 0, 1);
        for (int run = 0; run < 2; run++) {
            Check.due("shown(" + (run == 1) + ") of " + text, x.shown(run == 1), STATE);
            Check.due("byteAt(" + (run == 1) + ", 0) of " + text, x.byteAt(run == 1, 0), STATE);
        }
        Check.due("alike() of " + text, x.alike(), nested >= OVER || flat >= OVER ? STATE : 2);
    }

    /** The beginning of a program that takes so many CELLS, with few STEPS. */
    static String cells(int k) {
        StringBuilder text = new StringBuilder();
        int rest = k;
        if (rest >= 405) {
            int times = (rest - 204) / 201;
            text.append("let z=dist(iota(200),").append(times).append(") in ");
            rest -= 204 + 201 * times;
        }
        while (rest > 1) {
            int n = Math.min(200, rest - 2);
            text.append("let z=iota(").append(n).append(") in ");
            rest -= n + 2;
        }
        return rest == 1 ? text + "let z=0 in " : text.toString();
    }

    /** The beginning of a program that takes so many STEPS (3 or more), with few CELLS. */
    static String steps(int k) {
        StringBuilder text = new StringBuilder(DEFS);
        int rest = k;
        if (rest >= 9) {
            text.append("let z=0");
            rest -= 3;
            String[] terms = {"+c()", "+b()", "+a()", "+0"};
            int[] prices = {425, 106, 21, 4};
            for (int i = 0; i < 4; i++) {
                for (; rest - prices[i] >= 2; rest -= prices[i]) {
                    text.append(terms[i]);
                }
            }
            text.append(" in ");
        }
        if (rest % 2 == 1) {
            text.append("let z=0 in ");
            rest -= 3;
        }
        for (; rest > 0; rest -= 2) {
            text.append("let z=z in ");
        }
        return text.toString();
    }

    /** The beginning of a program that takes so much WORK (2 or more). */
    static String work(int k) {
        StringBuilder text = new StringBuilder();
        int rest = k;
        if (rest >= 410) {
            int times = (rest - 207) / 201;
            text.append("let z=dist(iota(200),").append(times).append(") in ");
            rest -= 205 + 201 * times;
        }
        while (rest > 2) {
            int n = Math.min(200, rest - 3);
            n -= rest - 3 - n == 1 ? 1 : 0;
            text.append("let z=iota(").append(n).append(") in ");
            rest -= n + 3;
        }
        return rest == 2 ? text + "let z=0 in " : text.toString();
    }
}
