import java.util.Random;

/** All promises together: calls made by chance on one object, 512 each, against a plain model of the states. */
public final class CallsTest {
    private static final int NONE = NestedVectors.NONE, BAD = NestedVectors.BAD;
    private static final int FULL = NestedVectors.FULL, STATE = NestedVectors.STATE;

    private final NestedVectors x = new NestedVectors();
    private final Random random;
    private final StringBuilder tape = new StringBuilder();
    private final String where;
    private Oracle program;
    private int latestFault;
    private boolean nestedDone;
    private boolean flatDone;
    private int nestedRuns;
    private int flatRuns;
    private int calls;

    private CallsTest(long seed) {
        random = new Random(seed);
        where = " with seed " + seed;
    }

    public static void main(String[] args) {
        int rounds = args.length > 0 ? Integer.parseInt(args[0]) : 150;
        for (long seed = 1; seed <= rounds; seed++) {
            CallsTest test = new CallsTest(seed);
            while (test.calls < 512) {
                test.call();
            }
        }
        Check.end();
    }

    private void call() {
        switch (random.nextInt(24)) {
            case 0, 1 -> feedText();
            case 2 -> feedOne(random.nextLong());
            case 3 -> feedOne(random.nextInt(4) == 0 ? 0L : (long) "0123456789 xy".charAt(random.nextInt(13)));
            case 4 -> cut();
            case 5, 6, 7 -> read();
            case 8 -> due("fault()" + where, x.fault(), latestFault);
            case 9 -> about();
            case 10 -> node();
            case 11, 12, 13 -> nested();
            case 14, 15, 16 -> flat();
            case 17, 18 -> meter();
            case 19 -> shown(random.nextBoolean());
            case 20, 21 -> byteAt(random.nextBoolean());
            default -> alike();
        }
    }

    private void due(String call, int got, int want) {
        calls++;
        Check.due(call, got, want);
    }

    private int anyInt(int near) {
        int pick = random.nextInt(20);
        return pick == 0 ? random.nextInt() : pick == 1 ? Integer.MIN_VALUE : pick == 2 ? Integer.MAX_VALUE
            : random.nextInt(near + 3) - 1;
    }

    private void feedText() {
        Programs programs = new Programs(random.nextLong());
        String text = programs.make();
        if (random.nextInt(4) == 0) {
            text = programs.spoil(text);
        }
        if (random.nextInt(3) > 0) {
            due("cut(0)" + where, x.cut(0), tape.length());
            tape.setLength(0);
        }
        for (int i = 0; i < text.length() && calls < 512; i += 8) {
            feedOne(Check.pack(text, i));
        }
    }

    private void feedOne(long w) {
        StringBuilder more = new StringBuilder();
        for (long rest = w; (rest & 255) != 0; rest >>>= 8) {
            more.append((char) (rest & 255));
        }
        if (tape.length() + more.length() > 1200) {
            due("feed(" + w + ")" + where, x.feed(w), FULL);
        } else {
            tape.append(more);
            due("feed(" + w + ")" + where, x.feed(w), tape.length());
        }
    }

    private void cut() {
        int n = anyInt(tape.length());
        int due = n < 0 || n > tape.length() ? BAD : tape.length() - n;
        due("cut(" + n + ")" + where, x.cut(n), due);
        if (due != BAD) {
            tape.setLength(n);
        }
    }

    private void read() {
        Oracle o = new Oracle(tape.toString());
        latestFault = o.fault;
        nestedDone = false;
        flatDone = false;
        program = o.fault == 0 ? o : null;
        due("read()" + where, x.read(), o.fault == 0 ? o.nodes.size() : -100 - o.faultPlace);
        if (o.fault == 0) {
            tape.setLength(0);
        }
    }

    private void about() {
        int what = anyInt(4);
        int due;
        if (what == 3) {
            due = tape.length();
        } else if (what < 0 || what > 3) {
            due = BAD;
        } else if (program == null) {
            due = STATE;
        } else {
            due = what == 0 ? program.nodes.size() : what == 1 ? program.defs.size() : program.root.depth;
        }
        due("about(" + what + ")" + where, x.about(what), due);
    }

    private void node() {
        int k = anyInt(program == null ? 3 : program.nodes.size());
        int what = random.nextInt(4) == 0 ? anyInt(2) : random.nextInt(2);
        int due;
        if (program == null) {
            due = STATE;
        } else if (k < 0 || k >= program.nodes.size()) {
            due = NONE;
        } else if (what != 0 && what != 1) {
            due = BAD;
        } else {
            due = what == 0 ? program.nodes.get(k).place : program.nodes.get(k).depth;
        }
        due("node(" + k + ", " + what + ")" + where, x.node(k, what), due);
    }

    private void nested() {
        if (program == null || nestedRuns == 20) {
            due("nested()" + where, x.nested(), program == null ? STATE : FULL);
            return;
        }
        nestedRuns++;
        nestedDone = true;
        program.runNested();
        due("nested()" + where, x.nested(), program.nestedEnd);
    }

    private void flat() {
        if (program == null || flatRuns == 20) {
            due("flat()" + where, x.flat(), program == null ? STATE : FULL);
            return;
        }
        flatRuns++;
        flatDone = true;
        program.runFlat();
        due("flat()" + where, x.flat(), program.flatEnd);
    }

    private void meter() {
        int what = anyInt(5);
        int due;
        if (what < 0 || what > 4) {
            due = BAD;
        } else if (what < 2) {
            due = !nestedDone ? STATE : what == 0 ? program.work : program.nestedEnd == 0 ? program.span : STATE;
        } else {
            due = !flatDone ? STATE : what == 2 ? program.steps : what == 3 ? program.cells : program.most;
        }
        due("meter(" + what + ")" + where, x.meter(what), due);
    }

    private boolean told(boolean flat) {
        return flat ? flatDone && program.flatEnd == 0 : nestedDone && program.nestedEnd == 0;
    }

    private String text(boolean flat) {
        return flat ? program.flatText : program.nestedText;
    }

    private void shown(boolean flat) {
        due("shown(" + flat + ")" + where, x.shown(flat), told(flat) ? text(flat).length() : STATE);
    }

    private void byteAt(boolean flat) {
        int i = anyInt(told(flat) ? Math.min(2002, text(flat).length()) : 3);
        int due = STATE;
        if (told(flat)) {
            due = i < 0 || i >= Math.min(2000, text(flat).length()) ? NONE : text(flat).charAt(i);
        }
        due("byteAt(" + flat + ", " + i + ")" + where, x.byteAt(flat, i), due);
    }

    private void alike() {
        due("alike()" + where, x.alike(), nestedDone && flatDone ? program.alike() : STATE);
    }
}
