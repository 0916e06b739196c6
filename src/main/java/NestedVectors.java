/**
 * A small language of nested sequences, worked out in two ways: as it is written, and flattened.
 * The text is read to a Tree, looked at by the Checker, which lays out a Plan in a straight line;
 * both runs go along that Plan with stacks of their own, so that no run needs deep recursion.
 */
public final class NestedVectors {
    public static final int NONE = -1, BAD = -2, FULL = -3, STATE = -4;

    private static final int TAPE = 1200, NODES = 200, DEFS = 12, PARAMS = 6, GENS = 4;
    private static final int NESTING = 12, DEEPEST = 3, LONGEST = 200, RUNS = 20;
    private static final int WORK = 3000, STEPS = 2000, CELLS = 6000, SHOWN = 2000;

    // Each let and each GEN has a node of its own, so variables are no more than these.
    private static final int SLOTS = DEFS * PARAMS + NODES;

    private static final int SYNTAX = 1, NAMED = 2, TYPED = 3;
    private static final int QUOTIENT = 1, INDEX = 2, LENGTH = 3, EMPTY = 4, SIZE = 5, PERMUTED = 6, OVER = 7, ROOM = 8;

    // Kinds of tokens; a sign's kind is its character. A node has the kind of its token, but for ROW and CALL.
    private static final int END = 256, NUMBER = 257, NAME = 258, NO_TOKEN = 259, STOPPED = 260;
    private static final int DEF = 261, LET = 262, IN = 263, IF = 264, THEN = 265, ELSE = 266;
    private static final int IOTA = 267, DIST = 268, SUM = 269, MAX = 270, MIN = 271, SCAN = 272;
    private static final int REV = 273, CAT = 274, FLAT = 275, PACK = 276, PERM = 277, PART = 278;
    private static final int ROW = 279, CALL = 280;
    private static final String RESERVED = "def let in if then else iota dist sum max min scan rev cat flat pack perm part";
    private static final String SIGNS = "(){}[],:;|=<+-*/%#";
    private static final long INT = ((long) 'i' << 16) | ((long) 'n' << 8) | 't';

    // Orders of a Plan.
    private static final int BEGIN = 0, FINISH = 1, FINISH_ONE = 2, FINISH_TWO = 3, BIND = 4, ENTER = 5, LEAVE = 6;
    private static final int FORK = 7, TURN = 8, JOIN = 9, OPEN = 10, SIFT = 11, NEXT = 12;

    private final byte[] tape = new byte[TAPE];
    private final Tree tree = new Tree();
    private final Defs defs = new Defs();
    private final Plan plan = new Plan();
    private final Parser parser = new Parser(tape, tree, defs);
    private final Checker checker = new Checker(tree, defs, plan);
    private final NestedRun nestedRun = new NestedRun(tree, defs, plan);
    private final FlatRun flatRun = new FlatRun(tree, defs, plan);
    private int size;
    private int latestFault;
    private boolean program;
    private int nestedBegun;
    private int flatBegun;

    public NestedVectors() {
    }

    public int feed(long w) {
        int more = 0;
        while (more < 8 && byteOf(w, more) != 0) {
            more++;
        }
        if (size + more > TAPE) {
            return FULL;
        }
        for (int i = 0; i < more; i++) {
            if (size >= 0 && size < tape.length) {
                tape[size] = (byte) byteOf(w, i);
                size++;
            }
        }
        return size;
    }

    public int cut(int n) {
        if (n < 0 || n > size) {
            return BAD;
        }
        int gone = size - n;
        size = n;
        return gone;
    }

    public int read() {
        program = false;
        nestedRun.forget();
        flatRun.forget();
        int place = parser.parse(size);
        latestFault = place < 0 ? 0 : SYNTAX;
        if (place < 0) {
            place = checker.check(parser.root);
            latestFault = checker.faultKind;
        }
        if (place >= 0) {
            return -100 - place;
        }
        program = true;
        size = 0;
        return tree.size;
    }

    public int fault() {
        return latestFault;
    }

    public int about(int what) {
        if (what < 0 || what > 3) {
            return BAD;
        }
        if (what == 3) {
            return size;
        }
        if (!program) {
            return STATE;
        }
        if (what == 2) {
            return at(tree.depth, parser.root);
        }
        return what == 0 ? tree.size : defs.size;
    }

    public int node(int k, int what) {
        if (!program) {
            return STATE;
        }
        if (k < 0 || k >= tree.size) {
            return NONE;
        }
        if (what < 0 || what > 1) {
            return BAD;
        }
        return what == 0 ? at(tree.place, k) : at(tree.depth, k);
    }

    public int nested() {
        if (!program) {
            return STATE;
        }
        if (nestedBegun >= RUNS) {
            return FULL;
        }
        nestedBegun++;
        return nestedRun.run(at(tree.depth, parser.root));
    }

    public int flat() {
        if (!program) {
            return STATE;
        }
        if (flatBegun >= RUNS) {
            return FULL;
        }
        flatBegun++;
        return flatRun.run(at(tree.depth, parser.root));
    }

    public int meter(int what) {
        if (what < 0 || what > 4) {
            return BAD;
        }
        if (what < 2) {
            boolean told = nestedRun.done && (what == 0 || nestedRun.finding == 0);
            return !told ? STATE : what == 0 ? nestedRun.work : nestedRun.span;
        }
        if (!flatRun.done) {
            return STATE;
        }
        if (what == 4) {
            return flatRun.most;
        }
        return what == 2 ? flatRun.rows.steps : flatRun.rows.used;
    }

    public int shown(boolean flat) {
        Machine run = flat ? flatRun : nestedRun;
        return run.done && run.finding == 0 ? run.image.length : STATE;
    }

    public int byteAt(boolean flat, int i) {
        Machine run = flat ? flatRun : nestedRun;
        if (!run.done || run.finding != 0) {
            return STATE;
        }
        return i < 0 || i >= Math.min(run.image.length, SHOWN) ? NONE : at(run.image.text, i);
    }

    public int alike() {
        if (!nestedRun.done || !flatRun.done || nestedRun.finding >= OVER || flatRun.finding >= OVER) {
            return STATE;
        }
        if (nestedRun.finding != 0 && flatRun.finding != 0) {
            return 2;
        }
        if (nestedRun.finding != 0 || flatRun.finding != 0) {
            return 0;
        }
        return nestedRun.image.same(flatRun.image) ? 1 : 0;
    }

    private static int byteOf(long w, int i) {
        return (int) (w >>> (8 * i)) & 255;
    }

    // Reading and writing of rows is total, so that no index can ever make the machine throw.
    private static int at(int[] row, int i) {
        return i >= 0 && i < row.length ? row[i] : 0;
    }

    private static long at(long[] row, int i) {
        return i >= 0 && i < row.length ? row[i] : 0L;
    }

    private static int at(byte[] row, int i) {
        return i >= 0 && i < row.length ? row[i] & 255 : 0;
    }

    private static void put(int[] row, int i, int x) {
        if (i >= 0 && i < row.length) {
            row[i] = x;
        }
    }

    private static void put(long[] row, int i, long x) {
        if (i >= 0 && i < row.length) {
            row[i] = x;
        }
    }

    private static boolean dividesByZero(int sign, int b) {
        return b == 0 && (sign == '/' || sign == '%');
    }

    private static int compute(int sign, int a, int b) {
        switch (sign) {
            case '<':
                return a < b ? 1 : 0;
            case '=':
                return a == b ? 1 : 0;
            case '+':
                return a + b;
            case '-':
                return a - b;
            case '*':
                return a * b;
            case '/':
                return b == 0 ? 0 : a / b;
            case '%':
                return b == 0 ? 0 : a % b;
            default:
                return 0;
        }
    }

    private static int fold(int kind, int a, int b) {
        return kind == SUM ? a + b : kind == MAX ? Math.max(a, b) : Math.min(a, b);
    }

    private static boolean badSize(int n) {
        return n < 0 || n > LONGEST;
    }

    /** Whether the first n wishes are each of 0 .. n - 1 once; back[p] tells then which one wishes p. */
    private static boolean invert(int[] wishes, int n, int[] back) {
        for (int i = 0; i < n; i++) {
            put(back, i, -1);
        }
        for (int i = 0; i < n; i++) {
            int wish = at(wishes, i);
            if (wish < 0 || wish >= n || at(back, wish) >= 0) {
                return false;
            }
            put(back, wish, i);
        }
        return true;
    }

    /** The tokens of the tape, one at a time. */
    private static final class Tokens {
        private final byte[] tape;
        private final long[] reserved = new long[PART - DEF + 1];
        private int size;
        private int next;
        int kind;
        int place;
        int number;
        long word;

        Tokens(byte[] tape) {
            this.tape = tape;
            int which = 0;
            for (int i = 0; i < RESERVED.length(); i++) {
                char c = RESERVED.charAt(i);
                if (c == ' ') {
                    which++;
                } else {
                    put(reserved, which, at(reserved, which) << 8 | c);
                }
            }
        }

        void start(int bytes) {
            size = bytes;
            next = 0;
            kind = END;
            advance();
        }

        /** After a fault nothing may stand anywhere, so that all open calls of the parser come to their end. */
        void stop() {
            kind = STOPPED;
        }

        void advance() {
            if (kind == STOPPED) {
                return;
            }
            while (next < size && (ahead() == 32 || ahead() == 10)) {
                next++;
            }
            place = next;
            int c = ahead();
            if (next >= size) {
                kind = END;
            } else if (isDigit(c)) {
                takeNumber();
            } else if (isLetter(c)) {
                takeWord();
            } else if (SIGNS.indexOf((char) c) >= 0) {
                kind = c;
                next++;
            } else {
                kind = NO_TOKEN;
            }
        }

        private int ahead() {
            return next >= 0 && next < size && next < tape.length ? tape[next] & 255 : 0;
        }

        private static boolean isDigit(int c) {
            return c >= '0' && c <= '9';
        }

        private static boolean isLetter(int c) {
            return c >= 'a' && c <= 'z';
        }

        private void takeNumber() {
            number = 0;
            while (next < size && isDigit(ahead())) {
                number = number * 10 + (ahead() - '0');
                next++;
            }
            kind = next - place > 9 ? NO_TOKEN : NUMBER;
        }

        private void takeWord() {
            word = 0;
            while (next < size && (isDigit(ahead()) || isLetter(ahead()))) {
                word = word << 8 | ahead();
                next++;
            }
            kind = next - place > 8 ? NO_TOKEN : NAME;
            for (int i = 0; i < reserved.length && kind == NAME; i++) {
                if (at(reserved, i) == word) {
                    kind = DEF + i;
                }
            }
        }
    }

    /**
     * The nodes in the order of their places. The parts of a node hang on it in the order in which they are
     * looked at; all nodes below a node have the numbers low .. high.
     */
    private static final class Tree {
        final int[] kind = new int[NODES];
        final int[] place = new int[NODES];
        final int[] number = new int[NODES];
        final int[] depth = new int[NODES];
        final int[] head = new int[NODES];
        final int[] tail = new int[NODES];
        final int[] next = new int[NODES];
        final int[] parts = new int[NODES];
        final int[] low = new int[NODES];
        final int[] high = new int[NODES];
        final int[] gens = new int[NODES];
        // The part behind the | of a { }, or -1.
        final int[] guard = new int[NODES];
        final int[] genPlace = new int[NODES];
        // A variable's and a let's slot, a { }'s first GEN's slot, the first slot within an if, a call's DEF.
        final int[] slot = new int[NODES];
        final long[] name = new long[NODES];
        // The name of the GEN whose sequence this node is.
        final long[] genName = new long[NODES];
        int size;

        int add(int nodeKind, int nodePlace) {
            int k = size;
            size++;
            put(kind, k, nodeKind);
            put(place, k, nodePlace);
            put(head, k, -1);
            put(tail, k, -1);
            put(next, k, -1);
            put(parts, k, 0);
            put(gens, k, 0);
            put(guard, k, -1);
            put(low, k, k);
            put(high, k, k);
            return k;
        }

        void attach(int k, int part) {
            if (k < 0 || part < 0) {
                return;
            }
            if (at(parts, k) == 0) {
                put(head, k, part);
            } else {
                put(next, at(tail, k), part);
            }
            put(tail, k, part);
            put(parts, k, at(parts, k) + 1);
        }

        void close(int k, int first) {
            put(low, k, first);
            put(high, k, size - 1);
        }

        int second(int k) {
            return at(next, at(head, k));
        }
    }

    private static final class Defs {
        final long[] name = new long[DEFS];
        final int[] place = new int[DEFS];
        final int[] root = new int[DEFS];
        final int[] params = new int[DEFS];
        final int[] firstSlot = new int[DEFS];
        final long[] paramName = new long[DEFS * PARAMS];
        final int[] paramPlace = new int[DEFS * PARAMS];
        final int[] paramDepth = new int[DEFS * PARAMS];
        int size;

        void add(long defName, int defPlace) {
            put(name, size, defName);
            put(place, size, defPlace);
            put(params, size, 0);
            size++;
        }

        void addParam(int d, long word, int wordPlace) {
            int i = d * PARAMS + at(params, d);
            put(paramName, i, word);
            put(paramPlace, i, wordPlace);
            put(params, d, at(params, d) + 1);
        }

        int find(long word, int limit) {
            for (int d = 0; d < limit && d < DEFS; d++) {
                if (at(name, d) == word) {
                    return d;
                }
            }
            return -1;
        }
    }

    /** Reads the tokens from left to right with one token ahead, so that the first fault is the leftmost. */
    private static final class Parser {
        private final Tokens tokens;
        private final Tree tree;
        private final Defs defs;
        private int faultPlace;
        int root;

        Parser(byte[] tape, Tree tree, Defs defs) {
            this.tokens = new Tokens(tape);
            this.tree = tree;
            this.defs = defs;
        }

        /** The place of the fault, or -1. */
        int parse(int bytes) {
            tree.size = 0;
            defs.size = 0;
            faultPlace = -1;
            tokens.start(bytes);
            for (int d = 0; d <= DEFS && tokens.kind == DEF; d++) {
                title(d);
                parameters(d);
                meaning(d);
            }
            root = expression(0);
            expect(END);
            return faultPlace;
        }

        private void fail() {
            if (faultPlace < 0) {
                faultPlace = tokens.place;
            }
            tokens.stop();
        }

        private void expect(int kind) {
            if (tokens.kind != kind) {
                fail();
            } else if (kind != END) {
                tokens.advance();
            }
        }

        private void title(int d) {
            if (d >= DEFS) {
                fail();
                return;
            }
            tokens.advance();
            if (tokens.kind == NAME) {
                defs.add(tokens.word, tokens.place);
            }
            expect(NAME);
            expect('(');
        }

        private void parameters(int d) {
            boolean more = tokens.kind != ')';
            for (int i = 0; i <= PARAMS && more; i++) {
                if (tokens.kind != NAME || i == PARAMS) {
                    fail();
                    return;
                }
                defs.addParam(d, tokens.word, tokens.place);
                tokens.advance();
                expect(':');
                put(defs.paramDepth, d * PARAMS + i, type());
                more = tokens.kind == ',';
                if (more) {
                    tokens.advance();
                }
            }
            expect(')');
        }

        private void meaning(int d) {
            expect('=');
            put(defs.root, d, expression(0));
            expect(';');
        }

        private int type() {
            int depth = 0;
            while (depth < NESTING && tokens.kind == '[') {
                depth++;
                tokens.advance();
            }
            if (tokens.kind == NAME && tokens.word != INT) {
                fail();
            }
            expect(NAME);
            for (int i = 0; i < depth; i++) {
                expect(']');
            }
            return depth;
        }

        /** A node of the token's kind; behind it stands the next token. */
        private int create() {
            if (tree.size >= NODES) {
                fail();
                return -1;
            }
            int k = tree.add(tokens.kind, tokens.place);
            put(tree.number, k, tokens.number);
            put(tree.name, k, tokens.word);
            tokens.advance();
            return k;
        }

        /** Whether what begins here may lie within so many others. */
        private boolean within(int nesting) {
            if (nesting >= NESTING) {
                fail();
            }
            return nesting < NESTING;
        }

        private int expression(int nesting) {
            if (tokens.kind == LET && within(nesting)) {
                return let(nesting);
            }
            if (tokens.kind == IF && within(nesting)) {
                return choice(nesting);
            }
            return comparison(nesting);
        }

        private int let(int nesting) {
            int k = create();
            put(tree.name, k, tokens.word);
            expect(NAME);
            expect('=');
            tree.attach(k, expression(nesting + 1));
            expect(IN);
            tree.attach(k, expression(nesting + 1));
            tree.close(k, k);
            return k;
        }

        private int choice(int nesting) {
            int k = create();
            tree.attach(k, expression(nesting + 1));
            expect(THEN);
            tree.attach(k, expression(nesting + 1));
            expect(ELSE);
            tree.attach(k, expression(nesting + 1));
            tree.close(k, k);
            return k;
        }

        private int comparison(int nesting) {
            int left = sum(nesting);
            if (tokens.kind != '<' && tokens.kind != '=') {
                return left;
            }
            int k = create();
            return both(k, left, sum(nesting));
        }

        private int sum(int nesting) {
            int left = product(nesting);
            for (int i = 0; i <= NODES && (tokens.kind == '+' || tokens.kind == '-'); i++) {
                int k = create();
                left = both(k, left, product(nesting));
            }
            return left;
        }

        private int product(int nesting) {
            int left = unary(nesting);
            for (int i = 0; i <= NODES && isProduct(tokens.kind); i++) {
                int k = create();
                left = both(k, left, unary(nesting));
            }
            return left;
        }

        private static boolean isProduct(int kind) {
            return kind == '*' || kind == '/' || kind == '%';
        }

        private int both(int k, int left, int right) {
            tree.attach(k, left);
            tree.attach(k, right);
            tree.close(k, at(tree.low, left));
            return k;
        }

        private int unary(int nesting) {
            if (tokens.kind != '#' || !within(nesting)) {
                return item(nesting);
            }
            int k = create();
            tree.attach(k, unary(nesting + 1));
            tree.close(k, k);
            return k;
        }

        private int item(int nesting) {
            int left = atom(nesting);
            for (int i = 0; i <= NODES && tokens.kind == '[' && within(nesting); i++) {
                int k = create();
                left = both(k, left, expression(nesting + 1));
                expect(']');
            }
            return left;
        }

        private int atom(int nesting) {
            int kind = tokens.kind;
            if (kind == NUMBER) {
                return create();
            }
            if (kind == NAME || (kind >= IOTA && kind <= PART)) {
                return word(kind, nesting);
            }
            if (kind == '(' && within(nesting)) {
                tokens.advance();
                int k = expression(nesting + 1);
                expect(')');
                return k;
            }
            if (kind == '[' && within(nesting)) {
                return row(nesting);
            }
            if (kind == '{' && within(nesting)) {
                return each(nesting);
            }
            fail();
            return -1;
        }

        private int word(int kind, int nesting) {
            int k = create();
            if (kind == NAME && tokens.kind != '(') {
                return k;
            }
            if (kind == NAME) {
                put(tree.kind, k, CALL);
            }
            if (tokens.kind == '(' && !within(nesting)) {
                return k;
            }
            expect('(');
            if (tokens.kind != ')') {
                list(k, nesting + 1);
            }
            expect(')');
            tree.close(k, k);
            return k;
        }

        private int row(int nesting) {
            int k = create();
            put(tree.kind, k, ROW);
            list(k, nesting + 1);
            expect(']');
            tree.close(k, k);
            return k;
        }

        private void list(int k, int nesting) {
            for (int i = 0; i <= NODES; i++) {
                tree.attach(k, expression(nesting));
                if (tokens.kind != ',') {
                    return;
                }
                tokens.advance();
            }
        }

        private int each(int nesting) {
            int k = create();
            int body = expression(nesting + 1);
            expect(':');
            generators(k, nesting + 1);
            if (tokens.kind == '|') {
                tokens.advance();
                int guard = expression(nesting + 1);
                tree.attach(k, guard);
                put(tree.guard, k, guard);
            }
            expect('}');
            tree.attach(k, body);
            tree.close(k, k);
            return k;
        }

        private void generators(int k, int nesting) {
            for (int i = 0; i <= GENS; i++) {
                if (tokens.kind != NAME || i == GENS) {
                    fail();
                    return;
                }
                long name = tokens.word;
                int place = tokens.place;
                tokens.advance();
                expect(IN);
                int part = expression(nesting);
                put(tree.genName, part, name);
                put(tree.genPlace, part, place);
                tree.attach(k, part);
                put(tree.gens, k, i + 1);
                if (tokens.kind != ',') {
                    return;
                }
                tokens.advance();
            }
        }
    }

    /** The orders of a program in a straight line: of each node its begin, its parts, its end. */
    private static final class Plan {
        // No node has more than five orders, and each DEF and the program one more.
        final int[] orders = new int[5 * NODES + DEFS + 1];
        final int[] nodes = new int[5 * NODES + DEFS + 1];
        final int[] entry = new int[DEFS + 1];
        // Behind an if's TURN, a { }'s OPEN.
        final int[] turnAt = new int[NODES];
        // Behind an if's JOIN, a { }'s NEXT.
        final int[] endAt = new int[NODES];
        final int[] slotDepth = new int[SLOTS];
        int size;

        void add(int order, int k) {
            put(orders, size, order);
            put(nodes, size, k);
            size++;
            if (order == TURN || order == OPEN) {
                put(turnAt, k, size);
            } else if (order == JOIN || order == NEXT) {
                put(endAt, k, size);
            }
        }
    }

    /** Looks for what is NAMED or TYPED wrongly, gives each variable a slot, and lays out the plan. */
    private static final class Checker {
        private final Tree tree;
        private final Defs defs;
        private final Plan plan;
        private final long[] knownName = new long[SLOTS];
        private final int[] knownSlot = new int[SLOTS];
        private final int[] knownBefore = new int[NODES];
        private final int[] parent = new int[NODES];
        private final int[] upcoming = new int[NODES];
        private final int[] visited = new int[NODES];
        private int known;
        private int slots;
        private int callable;
        private int faultPlace;
        int faultKind;

        Checker(Tree tree, Defs defs, Plan plan) {
            this.tree = tree;
            this.defs = defs;
            this.plan = plan;
        }

        /** The place of the fault, or -1. */
        int check(int root) {
            plan.size = 0;
            slots = 0;
            faultKind = 0;
            faultPlace = -1;
            for (int d = 0; d < defs.size && d < DEFS && faultKind == 0; d++) {
                definition(d);
            }
            if (faultKind == 0) {
                known = 0;
                callable = defs.size;
                walk(DEFS, root);
            }
            return faultPlace;
        }

        private void blame(int kind, int place) {
            if (faultKind == 0) {
                faultKind = kind;
                faultPlace = place;
            }
        }

        private void definition(int d) {
            known = 0;
            callable = d;
            if (defs.find(at(defs.name, d), d) >= 0) {
                blame(NAMED, at(defs.place, d));
            }
            put(defs.firstSlot, d, slots);
            for (int i = 0; i < at(defs.params, d) && i < PARAMS; i++) {
                int p = d * PARAMS + i;
                if (find(at(defs.paramName, p)) >= 0) {
                    blame(NAMED, at(defs.paramPlace, p));
                }
                if (at(defs.paramDepth, p) > DEEPEST) {
                    blame(TYPED, at(defs.paramPlace, p));
                }
                bind(at(defs.paramName, p), at(defs.paramDepth, p));
            }
            if (faultKind == 0) {
                walk(d, at(defs.root, d));
            }
        }

        /** The newest variable of that name, as its slot, or -1. */
        private int find(long name) {
            for (int i = Math.min(known, SLOTS) - 1; i >= 0; i--) {
                if (at(knownName, i) == name) {
                    return at(knownSlot, i);
                }
            }
            return -1;
        }

        private int bind(long name, int depth) {
            int slot = slots;
            slots++;
            put(knownName, known, name);
            put(knownSlot, known, slot);
            known++;
            put(plan.slotDepth, slot, depth);
            return slot;
        }

        /** A walk with links to the parents instead of recursion: a long sum is a very deep tree. */
        private void walk(int d, int root) {
            int k = root;
            put(plan.entry, d, plan.size);
            put(parent, root, -1);
            enter(root);
            for (int turn = 0; turn <= 2 * NODES && k >= 0 && faultKind == 0; turn++) {
                int part = at(upcoming, k);
                if (at(visited, k) >= at(tree.parts, k)) {
                    leave(k);
                    k = at(parent, k);
                } else {
                    ahead(k, at(visited, k));
                    put(visited, k, at(visited, k) + 1);
                    put(upcoming, k, at(tree.next, part));
                    put(parent, part, k);
                    enter(part);
                    k = part;
                }
            }
            plan.add(LEAVE, d);
        }

        private void enter(int k) {
            if (faultKind != 0) {
                return;
            }
            plan.add(BEGIN, k);
            put(upcoming, k, at(tree.head, k));
            put(visited, k, 0);
            put(knownBefore, k, known);
            put(tree.slot, k, slots);
        }

        /** What is due ahead of the part with that index. */
        private void ahead(int k, int index) {
            int kind = at(tree.kind, k);
            if (kind == LET && index == 1) {
                put(tree.slot, k, bind(at(tree.name, k), at(tree.depth, at(tree.head, k))));
                plan.add(BIND, k);
            } else if (kind == IF && index > 0) {
                plan.add(index == 1 ? FORK : TURN, k);
            } else if (kind == '{' && index == at(tree.gens, k)) {
                open(k);
            } else if (kind == '{' && index > at(tree.gens, k)) {
                plan.add(SIFT, k);
            }
        }

        private void open(int k) {
            put(tree.slot, k, slots);
            int before = known;
            boolean typed = true;
            int part = at(tree.head, k);
            for (int i = 0; i < at(tree.gens, k) && i < GENS; i++) {
                long name = at(tree.genName, part);
                for (int j = before; j < known && j < SLOTS; j++) {
                    if (at(knownName, j) == name) {
                        blame(NAMED, at(tree.genPlace, part));
                    }
                }
                typed = typed && at(tree.depth, part) > 0;
                bind(name, at(tree.depth, part) - 1);
                part = at(tree.next, part);
            }
            if (!typed) {
                blame(TYPED, at(tree.place, k));
            }
            plan.add(OPEN, k);
        }

        private void leave(int k) {
            known = at(knownBefore, k);
            int kind = at(tree.kind, k);
            if (kind == NAME || kind == CALL) {
                resolve(k, kind);
            }
            if (faultKind != 0) {
                return;
            }
            int depth = depthOf(k, kind);
            if (depth < 0 || depth > DEEPEST) {
                blame(TYPED, at(tree.place, k));
            }
            put(tree.depth, k, depth);
            conclude(k, kind);
        }

        private void conclude(int k, int kind) {
            switch (kind) {
                case LET:
                    break;
                case IF:
                    plan.add(JOIN, k);
                    break;
                case CALL:
                    plan.add(ENTER, k);
                    break;
                case '{':
                    plan.add(NEXT, k);
                    plan.add(FINISH, k);
                    break;
                case NUMBER:
                case NAME:
                case ROW:
                    plan.add(FINISH, k);
                    break;
                default:
                    plan.add(partsOf(kind) == 1 ? FINISH_ONE : FINISH_TWO, k);
                    break;
            }
        }

        private void resolve(int k, int kind) {
            long name = at(tree.name, k);
            int found = kind == NAME ? find(name) : defs.find(name, callable);
            if (found < 0) {
                blame(NAMED, at(tree.place, k));
            }
            put(tree.slot, k, found);
        }

        /** The depth of what comes of a node, or -1 if its parts are not as they have to be. */
        private int depthOf(int k, int kind) {
            switch (kind) {
                case NUMBER:
                    return 0;
                case NAME:
                    return at(plan.slotDepth, at(tree.slot, k));
                case LET:
                    return at(tree.depth, at(tree.tail, k));
                case IF:
                    return depthOfChoice(k);
                case ROW:
                    return depthOfRow(k);
                case '{':
                    return depthOfEach(k);
                case CALL:
                    return depthOfCall(k);
                default:
                    return at(tree.parts, k) == partsOf(kind) ? depthOfParts(k, kind) : -1;
            }
        }

        private int depthOfChoice(int k) {
            int depth = at(tree.depth, at(tree.tail, k));
            int first = at(tree.head, k);
            boolean same = at(tree.depth, at(tree.next, first)) == depth;
            return same && at(tree.depth, first) == 0 ? depth : -1;
        }

        private int depthOfRow(int k) {
            int depth = at(tree.depth, at(tree.head, k));
            int part = at(tree.head, k);
            for (int i = 0; i < at(tree.parts, k) && i < NODES; i++) {
                if (at(tree.depth, part) != depth) {
                    return -1;
                }
                part = at(tree.next, part);
            }
            return depth + 1;
        }

        private int depthOfEach(int k) {
            int guard = at(tree.guard, k);
            boolean wrong = guard >= 0 && at(tree.depth, guard) != 0;
            return wrong ? -1 : at(tree.depth, at(tree.tail, k)) + 1;
        }

        private int depthOfCall(int k) {
            int d = at(tree.slot, k);
            if (at(tree.parts, k) != at(defs.params, d)) {
                return -1;
            }
            int part = at(tree.head, k);
            for (int i = 0; i < at(defs.params, d) && i < PARAMS; i++) {
                if (at(tree.depth, part) != at(defs.paramDepth, d * PARAMS + i)) {
                    return -1;
                }
                part = at(tree.next, part);
            }
            return at(tree.depth, at(defs.root, d));
        }

        private static int partsOf(int kind) {
            boolean one = kind == '#' || kind == IOTA || kind == SUM || kind == MAX || kind == MIN
                || kind == SCAN || kind == REV || kind == FLAT;
            return one ? 1 : 2;
        }

        private int depthOfParts(int k, int kind) {
            int a = at(tree.depth, at(tree.head, k));
            int b = at(tree.depth, at(tree.tail, k));
            switch (kind) {
                case '#':
                    return a > 0 ? 0 : -1;
                case '[':
                    return a > 0 && b == 0 ? a - 1 : -1;
                case IOTA:
                    return a == 0 ? 1 : -1;
                case DIST:
                    return b == 0 ? a + 1 : -1;
                case SUM:
                case MAX:
                case MIN:
                    return a == 1 ? 0 : -1;
                case SCAN:
                    return a == 1 ? 1 : -1;
                case REV:
                    return a > 0 ? a : -1;
                case CAT:
                    return a > 0 && a == b ? a : -1;
                case FLAT:
                    return a > 1 ? a - 1 : -1;
                case PACK:
                case PERM:
                    return a > 0 && b == 1 ? a : -1;
                case PART:
                    return a > 0 && b == 1 ? a + 1 : -1;
                default:
                    return a == 0 && b == 0 ? 0 : -1;
            }
        }
    }

    /**
     * Goes along a plan. No DEF calls itself, so a node is never open twice at once: what a run has to
     * remember of a node stands in rows by the node's number, and a variable has one place for good.
     */
    private abstract static class Machine {
        // Far above what WORK and STEPS leave to any run.
        private static final int TURNS = 100000;
        final Tree tree;
        final Defs defs;
        final Plan plan;
        final Image image;
        final int[] slots = new int[SLOTS];
        final int[] stack;
        private final int[] back = new int[DEFS + 1];
        int top;
        int pc;
        // The depth of what comes of the node that is at its end.
        int depth;
        int finding;
        boolean done;

        Machine(Tree tree, Defs defs, Plan plan, int stackSize, int imageSize) {
            this.tree = tree;
            this.defs = defs;
            this.plan = plan;
            this.stack = new int[Math.max(stackSize, 0)];
            this.image = new Image(imageSize);
        }

        abstract void prepare();

        abstract void draw(int value, int nesting);

        abstract void begin(int k);

        abstract void fork(int k);

        abstract void turn(int k);

        abstract void join(int k);

        abstract void open(int k);

        abstract void sift(int k);

        abstract void next(int k);

        abstract void collect(int k);

        abstract void constant(int number);

        abstract void row(int n);

        abstract void combine(int sign, int a, int b);

        abstract void measure(int s);

        abstract void select(int s, int i);

        abstract void countUp(int n);

        abstract void repeat(int x, int n);

        abstract void reduce(int kind, int s);

        abstract void sumUp(int s);

        abstract void reverse(int s);

        abstract void append(int s, int t);

        abstract void flatten(int s);

        abstract void pack(int s, int flags);

        abstract void permute(int s, int wishes);

        abstract void divide(int s, int lengths);

        final void forget() {
            done = false;
        }

        final int run(int programDepth) {
            start();
            for (int turn = 0; turn < TURNS && pc >= 0 && finding == 0; turn++) {
                int k = at(plan.nodes, pc);
                int order = at(plan.orders, pc);
                pc++;
                switch (order) {
                    case BEGIN:
                        begin(k);
                        break;
                    case FINISH:
                        finish(k);
                        break;
                    case FINISH_ONE:
                        finishOne(k);
                        break;
                    case FINISH_TWO:
                        finishTwo(k);
                        break;
                    case BIND:
                        put(slots, at(tree.slot, k), pop());
                        break;
                    case ENTER:
                        enter(at(tree.slot, k));
                        break;
                    case LEAVE:
                        pc = at(back, k);
                        break;
                    case FORK:
                        fork(k);
                        break;
                    case TURN:
                        turn(k);
                        break;
                    case JOIN:
                        join(k);
                        break;
                    case OPEN:
                        open(k);
                        break;
                    case SIFT:
                        sift(k);
                        break;
                    default:
                        next(k);
                        break;
                }
            }
            conclude(programDepth);
            return finding;
        }

        private void start() {
            top = 0;
            finding = 0;
            prepare();
            put(back, DEFS, -1);
            pc = at(plan.entry, DEFS);
        }

        private void conclude(int programDepth) {
            done = true;
            image.clear();
            if (finding == 0) {
                draw(pop(), programDepth);
                image.render(programDepth);
            }
        }

        private void finish(int k) {
            depth = at(tree.depth, k);
            switch (at(tree.kind, k)) {
                case NUMBER:
                    constant(at(tree.number, k));
                    break;
                case NAME:
                    push(at(slots, at(tree.slot, k)));
                    break;
                case ROW:
                    row(at(tree.parts, k));
                    break;
                default:
                    collect(k);
                    break;
            }
        }

        private void finishOne(int k) {
            int kind = at(tree.kind, k);
            int a = pop();
            depth = at(tree.depth, k);
            switch (kind) {
                case '#':
                    measure(a);
                    break;
                case IOTA:
                    countUp(a);
                    break;
                case SCAN:
                    sumUp(a);
                    break;
                case REV:
                    reverse(a);
                    break;
                case FLAT:
                    flatten(a);
                    break;
                default:
                    reduce(kind, a);
                    break;
            }
        }

        private void finishTwo(int k) {
            int kind = at(tree.kind, k);
            int b = pop();
            int a = pop();
            depth = at(tree.depth, k);
            switch (kind) {
                case '[':
                    select(a, b);
                    break;
                case DIST:
                    repeat(a, b);
                    break;
                case CAT:
                    append(a, b);
                    break;
                case PACK:
                    pack(a, b);
                    break;
                case PERM:
                    permute(a, b);
                    break;
                case PART:
                    divide(a, b);
                    break;
                default:
                    combine(kind, a, b);
                    break;
            }
        }

        private void enter(int d) {
            int params = at(defs.params, d);
            for (int i = 0; i < params && i < PARAMS; i++) {
                put(slots, at(defs.firstSlot, d) + i, at(stack, top - params + i));
            }
            top -= params;
            put(back, d, pc);
            pc = at(plan.entry, d);
        }

        final void push(int x) {
            put(stack, top, x);
            top++;
        }

        final int pop() {
            top--;
            return at(stack, top);
        }
    }

    /** As it is written: a sequence is kept on a heap as its length, its COUNT, and its items. */
    private static final class NestedRun extends Machine {
        // What is kept is paid for by WORK, with three places for one of it at most.
        private final int[] heap = new int[3 * WORK + 3];
        private final int[] out = new int[LONGEST];
        private final int[] order = new int[LONGEST];
        private final int[] base = new int[NODES];
        private final int[] place = new int[NODES];
        private final int[] places = new int[NODES];
        private final int[] spanBefore = new int[NODES];
        private final int[] spanBest = new int[NODES];
        private int heapSize;
        private int outSize;
        int work;
        int span;

        NestedRun(Tree tree, Defs defs, Plan plan) {
            super(tree, defs, plan, WORK + LONGEST, WORK + 1);
        }

        void prepare() {
            heapSize = 0;
            outSize = 0;
            work = 0;
            span = 0;
        }

        void begin(int k) {
            if (spend(1)) {
                span++;
            }
        }

        private boolean spend(int more) {
            if (work + more > WORK) {
                finding = OVER;
                return false;
            }
            work += more;
            return true;
        }

        private int lengthOf(int s) {
            return at(heap, s);
        }

        private int countOf(int s) {
            return at(heap, s + 1);
        }

        private int itemOf(int s, int i) {
            return at(heap, s + 2 + i);
        }

        private void add(int x) {
            put(out, outSize, x);
            outSize++;
        }

        /** What was added becomes the sequence that the node comes to, if its COUNT can be paid. */
        private void give() {
            int count = outSize;
            for (int i = 0; i < outSize && depth > 1; i++) {
                count += countOf(at(out, i));
            }
            if (spend(count)) {
                keep(count);
            }
        }

        private void keep(int count) {
            int s = heapSize;
            put(heap, s, outSize);
            put(heap, s + 1, count);
            for (int i = 0; i < outSize; i++) {
                put(heap, s + 2 + i, at(out, i));
            }
            heapSize = s + 2 + outSize;
            outSize = 0;
            put(stack, top, s);
            top++;
        }

        private void gather(int n) {
            top -= n;
            for (int i = 0; i < n; i++) {
                put(out, outSize, at(stack, top + i));
                outSize++;
            }
        }

        void constant(int number) {
            push(number);
        }

        void row(int parts) {
            gather(parts);
            give();
        }

        void measure(int s) {
            push(lengthOf(s));
        }

        void combine(int sign, int a, int b) {
            if (dividesByZero(sign, b)) {
                finding = QUOTIENT;
            } else {
                push(compute(sign, a, b));
            }
        }

        void select(int s, int i) {
            if (i < 0 || i >= lengthOf(s)) {
                finding = INDEX;
            } else {
                push(itemOf(s, i));
            }
        }

        void countUp(int n) {
            if (badSize(n)) {
                finding = SIZE;
                return;
            }
            for (int i = 0; i < n; i++) {
                add(i);
            }
            give();
        }

        void repeat(int x, int n) {
            if (badSize(n)) {
                finding = SIZE;
                return;
            }
            for (int i = 0; i < n; i++) {
                add(x);
            }
            give();
        }

        void reduce(int kind, int s) {
            int n = lengthOf(s);
            if (n == 0 && kind != SUM) {
                finding = EMPTY;
                return;
            }
            int total = n == 0 ? 0 : itemOf(s, 0);
            for (int i = 1; i < n; i++) {
                total = fold(kind, total, itemOf(s, i));
            }
            if (spend(n)) {
                push(total);
            }
        }

        void sumUp(int s) {
            int total = 0;
            for (int i = 0; i < lengthOf(s); i++) {
                add(total);
                total += itemOf(s, i);
            }
            give();
        }

        void reverse(int s) {
            for (int i = lengthOf(s) - 1; i >= 0; i--) {
                add(itemOf(s, i));
            }
            give();
        }

        private void addAll(int s) {
            for (int i = 0; i < lengthOf(s); i++) {
                add(itemOf(s, i));
            }
        }

        void append(int s, int t) {
            if (badSize(lengthOf(s) + lengthOf(t))) {
                finding = SIZE;
                return;
            }
            addAll(s);
            addAll(t);
            give();
        }

        void flatten(int s) {
            int total = 0;
            for (int i = 0; i < lengthOf(s); i++) {
                total += lengthOf(itemOf(s, i));
            }
            if (badSize(total)) {
                finding = SIZE;
                return;
            }
            for (int i = 0; i < lengthOf(s); i++) {
                addAll(itemOf(s, i));
            }
            give();
        }

        void pack(int s, int flags) {
            if (lengthOf(s) != lengthOf(flags)) {
                finding = LENGTH;
                return;
            }
            for (int i = 0; i < lengthOf(s); i++) {
                if (itemOf(flags, i) != 0) {
                    add(itemOf(s, i));
                }
            }
            give();
        }

        void permute(int s, int wishes) {
            int n = lengthOf(s);
            if (n != lengthOf(wishes)) {
                finding = LENGTH;
                return;
            }
            addAll(wishes);
            if (!invert(out, n, order)) {
                finding = PERMUTED;
                return;
            }
            outSize = 0;
            for (int i = 0; i < n; i++) {
                add(itemOf(s, at(order, i)));
            }
            give();
        }

        void divide(int s, int lengths) {
            int n = lengthOf(lengths);
            long total = 0;
            boolean below = false;
            for (int i = 0; i < n; i++) {
                below = below || itemOf(lengths, i) < 0;
                total += itemOf(lengths, i);
            }
            if (below || total != lengthOf(s)) {
                finding = below ? SIZE : LENGTH;
            } else if (spend(n + countOf(s))) {
                keepParts(s, lengths, depth > 2);
            }
        }

        private void keepParts(int s, int lengths, boolean deeper) {
            int n = lengthOf(lengths);
            int from = 0;
            for (int i = 0; i < n; i++) {
                int to = from + itemOf(lengths, i);
                int count = to - from;
                for (int j = from; j < to; j++) {
                    add(itemOf(s, j));
                    count += deeper ? countOf(itemOf(s, j)) : 0;
                }
                from = to;
                keep(count);
            }
            gather(n);
            keep(n + countOf(s));
        }

        void fork(int k) {
            if (pop() == 0) {
                pc = at(plan.turnAt, k);
            }
        }

        void turn(int k) {
            pc = at(plan.endAt, k);
        }

        void join(int k) {
        }

        /** The GENS' sequences stay on the stack, and what comes of the places stands behind them. */
        void open(int k) {
            int gens = at(tree.gens, k);
            int n = lengthOf(at(stack, top - gens));
            for (int i = 1; i < gens && i < GENS; i++) {
                if (lengthOf(at(stack, top - gens + i)) != n) {
                    finding = LENGTH;
                    return;
                }
            }
            put(base, k, top);
            put(places, k, n);
            put(place, k, 0);
            put(spanBefore, k, span);
            put(spanBest, k, 0);
            visit(k);
        }

        private void visit(int k) {
            int i = at(place, k);
            if (i >= at(places, k)) {
                span = at(spanBefore, k) + at(spanBest, k);
                pc = at(plan.endAt, k);
                return;
            }
            int gens = at(tree.gens, k);
            for (int j = 0; j < gens && j < GENS; j++) {
                int s = at(stack, at(base, k) - gens + j);
                put(slots, at(tree.slot, k) + j, itemOf(s, i));
            }
            span = 0;
            pc = at(plan.turnAt, k);
        }

        void collect(int k) {
            gather(top - at(base, k));
            top -= at(tree.gens, k);
            give();
        }

        void sift(int k) {
            if (pop() == 0) {
                next(k);
            }
        }

        void next(int k) {
            put(spanBest, k, Math.max(at(spanBest, k), span));
            put(place, k, at(place, k) + 1);
            visit(k);
        }

        void draw(int value, int nesting) {
            drawItem(value, nesting);
        }

        private void drawItem(int value, int nesting) {
            if (nesting <= 0) {
                image.add(value);
                return;
            }
            image.add(lengthOf(value));
            for (int i = 0; i < lengthOf(value) && i < LONGEST; i++) {
                drawItem(itemOf(value, i), nesting - 1);
            }
        }
    }

    /**
     * The VALUES of a flat run. A VALUE is a row of numbers, or a row of lengths and the VALUE of all items.
     * What a STEP gives is first told by whole rows (first, second) and by picks, ranges of lanes of VALUES
     * that are there already; seal makes it a VALUE. All rows together have just as many cells as CELLS tells.
     */
    private static final class Lanes {
        // A STEP gives one row and at most one for each depth.
        private static final int VALUES = STEPS * (DEEPEST + 1);
        private final int[] cells = new int[CELLS];
        private final int[] starts = new int[CELLS];
        private final int[] rowAt = new int[VALUES];
        private final int[] rowSize = new int[VALUES];
        private final int[] rowItems = new int[VALUES];
        private final int[] first = new int[CELLS];
        private final int[] second = new int[CELLS];
        private final int[] pickValue = new int[CELLS];
        private final int[] pickLow = new int[CELLS];
        private final int[] pickHigh = new int[CELLS];
        private int values;
        private int firstSize;
        private int secondSize;
        private int picks;
        private int trouble;
        boolean overflow;
        int used;
        int steps;
        int ended;

        void clear() {
            values = 0;
            used = 0;
            steps = 0;
            ended = 0;
            reset();
        }

        private void reset() {
            firstSize = 0;
            secondSize = 0;
            picks = 0;
            trouble = 0;
            overflow = false;
        }

        /** A number, or a length. The value -1 stands for what a lane with a FINDING has: 0, or no items. */
        int cell(int v, int lane) {
            if (v < 0 || v >= VALUES) {
                return 0;
            }
            int i = rowAt[v] + lane;
            return i >= 0 && i < CELLS ? cells[i] : 0;
        }

        /** In which lane of the items those of this lane begin. */
        int start(int v, int lane) {
            if (v < 0 || v >= VALUES) {
                return 0;
            }
            int i = rowAt[v] + lane;
            return i >= 0 && i < CELLS ? starts[i] : 0;
        }

        int end(int v, int lane) {
            return start(v, lane) + cell(v, lane);
        }

        int items(int v) {
            return v >= 0 && v < VALUES ? rowItems[v] : -1;
        }

        int size(int v) {
            return at(rowSize, v);
        }

        /** A STEP of no CELLS. */
        boolean step() {
            if (steps >= STEPS) {
                ended = ROOM;
                return false;
            }
            steps++;
            return true;
        }

        /** Lanes come in order, so that the least lane's FINDING is the one that was missed first. */
        void miss(int finding) {
            if (trouble == 0) {
                trouble = finding;
            }
        }

        void first(int x) {
            overflow = overflow || firstSize >= CELLS;
            put(first, firstSize, x);
            firstSize++;
        }

        void second(int x) {
            overflow = overflow || secondSize >= CELLS;
            put(second, secondSize, x);
            secondSize++;
        }

        void pick(int v, int low, int high) {
            if (low >= high) {
                return;
            }
            overflow = overflow || picks >= CELLS;
            put(pickValue, picks, v);
            put(pickLow, picks, low);
            put(pickHigh, picks, high);
            picks++;
        }

        /** One STEP: a VALUE of that depth, whose uppermost rows are as many of first, second as fresh tells. */
        int seal(int depth, int fresh) {
            int before = used;
            int v = values;
            for (int level = 0; level <= depth && !overflow; level++) {
                put(rowAt, values, used);
                put(rowItems, values, level < depth ? values + 1 : -1);
                if (level >= fresh) {
                    copyPicks();
                } else {
                    copy(level == 0 ? first : second, level == 0 ? firstSize : secondSize);
                }
                put(rowSize, values, used - at(rowAt, values));
                if (level < depth) {
                    layOut(values);
                }
                values++;
            }
            if (overflow || !step()) {
                ended = ROOM;
                used = before;
            } else {
                ended = trouble;
            }
            reset();
            return v;
        }

        private void copy(int[] row, int n) {
            for (int i = 0; i < n && !overflow; i++) {
                store(at(row, i));
            }
        }

        /** The picked ranges go to the new row, and each becomes the range of its items. */
        private void copyPicks() {
            for (int i = 0; i < picks && !overflow; i++) {
                int v = at(pickValue, i);
                int low = at(pickLow, i);
                int high = at(pickHigh, i);
                for (int lane = low; lane < high && !overflow; lane++) {
                    store(cell(v, lane));
                }
                put(pickValue, i, items(v));
                put(pickLow, i, low < high ? start(v, low) : 0);
                put(pickHigh, i, low < high ? start(v, high - 1) + cell(v, high - 1) : 0);
            }
        }

        private void store(int x) {
            if (used >= 0 && used < CELLS) {
                cells[used] = x;
                used++;
            } else {
                overflow = true;
            }
        }

        private void layOut(int v) {
            int total = 0;
            for (int lane = 0; lane < at(rowSize, v); lane++) {
                put(starts, at(rowAt, v) + lane, total);
                total += cell(v, lane);
            }
        }

        /** Lengths that are there already, and their items, as a VALUE; this is no STEP. */
        int bundle(int lengths, int items) {
            put(rowAt, values, at(rowAt, lengths));
            put(rowSize, values, at(rowSize, lengths));
            put(rowItems, values, items);
            layOut(values);
            values++;
            return values - 1;
        }
    }

    /** Flattened: each node for all lanes at once. */
    private static final class FlatRun extends Machine {
        // A variable's node is within no more { } and if than may lie within one another.
        private static final int SAVED = NODES * NESTING;
        private final int[] lanesOf = new int[NODES];
        // An if's first part, a { }'s lengths.
        private final int[] guide = new int[NODES];
        private final int[] savedBefore = new int[NODES];
        private final int[] savedSlot = new int[SAVED];
        private final int[] savedValue = new int[SAVED];
        private final int[] wanted = new int[NODES];
        private final int[] wishes = new int[LONGEST];
        private final int[] order = new int[LONGEST];
        final Lanes rows = new Lanes();
        private int wantedSize;
        private int saved;
        private int lanes;
        int most;

        FlatRun(Tree tree, Defs defs, Plan plan) {
            super(tree, defs, plan, 2 * NODES, CELLS + 1);
        }

        void prepare() {
            rows.clear();
            saved = 0;
            lanes = 1;
            most = 0;
        }

        void begin(int k) {
            put(lanesOf, k, lanes);
            if (rows.step()) {
                most = Math.max(most, lanes);
            } else {
                finding = ROOM;
            }
        }

        /** What the rows were told becomes the VALUE that the node comes to; so many of its rows are fresh. */
        private void give(int fresh) {
            push(rows.seal(depth, fresh));
            finding = rows.ended;
        }

        void constant(int number) {
            for (int lane = 0; lane < lanes; lane++) {
                rows.first(number);
            }
            give(1);
        }

        void measure(int s) {
            for (int lane = 0; lane < lanes; lane++) {
                rows.first(rows.cell(s, lane));
            }
            give(1);
        }

        void combine(int sign, int a, int b) {
            for (int lane = 0; lane < lanes; lane++) {
                int y = rows.cell(b, lane);
                if (dividesByZero(sign, y)) {
                    rows.miss(QUOTIENT);
                }
                rows.first(compute(sign, rows.cell(a, lane), y));
            }
            give(1);
        }

        void select(int s, int index) {
            for (int lane = 0; lane < lanes; lane++) {
                int i = rows.cell(index, lane);
                if (i < 0 || i >= rows.cell(s, lane)) {
                    rows.miss(INDEX);
                    rows.pick(-1, 0, 1);
                } else {
                    int there = rows.start(s, lane) + i;
                    rows.pick(rows.items(s), there, there + 1);
                }
            }
            give(0);
        }

        void row(int n) {
            top -= n;
            for (int lane = 0; lane < lanes && !rows.overflow; lane++) {
                rows.first(n);
                for (int i = 0; i < n; i++) {
                    rows.pick(at(stack, top + i), lane, lane + 1);
                }
            }
            give(1);
        }

        private int sizeIn(int n, int lane) {
            int size = rows.cell(n, lane);
            if (badSize(size)) {
                rows.miss(SIZE);
                return 0;
            }
            return size;
        }

        void countUp(int n) {
            for (int lane = 0; lane < lanes && !rows.overflow; lane++) {
                int size = sizeIn(n, lane);
                rows.first(size);
                for (int i = 0; i < size; i++) {
                    rows.second(i);
                }
            }
            give(2);
        }

        void repeat(int v, int n) {
            for (int lane = 0; lane < lanes && !rows.overflow; lane++) {
                int size = sizeIn(n, lane);
                rows.first(size);
                for (int i = 0; i < size; i++) {
                    rows.pick(v, lane, lane + 1);
                }
            }
            give(1);
        }

        void reduce(int kind, int s) {
            int items = rows.items(s);
            for (int lane = 0; lane < lanes; lane++) {
                int from = rows.start(s, lane);
                int to = rows.end(s, lane);
                if (from == to && kind != SUM) {
                    rows.miss(EMPTY);
                }
                int total = from == to ? 0 : rows.cell(items, from);
                for (int i = from + 1; i < to; i++) {
                    total = fold(kind, total, rows.cell(items, i));
                }
                rows.first(total);
            }
            give(1);
        }

        void sumUp(int s) {
            int items = rows.items(s);
            for (int lane = 0; lane < lanes; lane++) {
                int total = 0;
                int to = rows.end(s, lane);
                rows.first(rows.cell(s, lane));
                for (int i = rows.start(s, lane); i < to; i++) {
                    rows.second(total);
                    total += rows.cell(items, i);
                }
            }
            give(2);
        }

        void reverse(int s) {
            for (int lane = 0; lane < lanes; lane++) {
                int from = rows.start(s, lane);
                rows.first(rows.cell(s, lane));
                for (int i = rows.end(s, lane) - 1; i >= from; i--) {
                    rows.pick(rows.items(s), i, i + 1);
                }
            }
            give(1);
        }

        void append(int s, int t) {
            for (int lane = 0; lane < lanes; lane++) {
                int size = rows.cell(s, lane) + rows.cell(t, lane);
                if (badSize(size)) {
                    rows.miss(SIZE);
                    rows.first(0);
                } else {
                    rows.first(size);
                    rows.pick(rows.items(s), rows.start(s, lane), rows.end(s, lane));
                    rows.pick(rows.items(t), rows.start(t, lane), rows.end(t, lane));
                }
            }
            give(1);
        }

        void flatten(int s) {
            int inner = rows.items(s);
            for (int lane = 0; lane < lanes; lane++) {
                boolean none = rows.cell(s, lane) == 0;
                int from = none ? 0 : rows.start(inner, rows.start(s, lane));
                int to = none ? 0 : rows.end(inner, rows.end(s, lane) - 1);
                if (badSize(to - from)) {
                    rows.miss(SIZE);
                    rows.first(0);
                } else {
                    rows.first(to - from);
                    rows.pick(rows.items(inner), from, to);
                }
            }
            give(1);
        }

        void pack(int s, int flags) {
            for (int lane = 0; lane < lanes; lane++) {
                int size = rows.cell(s, lane);
                int chosen = 0;
                if (size != rows.cell(flags, lane)) {
                    rows.miss(LENGTH);
                    size = 0;
                }
                int from = rows.start(s, lane);
                for (int i = 0; i < size; i++) {
                    if (rows.cell(rows.items(flags), rows.start(flags, lane) + i) != 0) {
                        chosen++;
                        rows.pick(rows.items(s), from + i, from + i + 1);
                    }
                }
                rows.first(chosen);
            }
            give(1);
        }

        void permute(int s, int p) {
            for (int lane = 0; lane < lanes; lane++) {
                int size = ordered(s, p, lane);
                int from = rows.start(s, lane);
                rows.first(size);
                for (int i = 0; i < size; i++) {
                    rows.pick(rows.items(s), from + at(order, i), from + at(order, i) + 1);
                }
            }
            give(1);
        }

        /** Puts the lane's items in order; how many they are, 0 behind a FINDING. */
        private int ordered(int s, int p, int lane) {
            int size = rows.cell(s, lane);
            if (size != rows.cell(p, lane)) {
                rows.miss(LENGTH);
                return 0;
            }
            for (int i = 0; i < size; i++) {
                put(wishes, i, rows.cell(rows.items(p), rows.start(p, lane) + i));
            }
            if (!invert(wishes, size, order)) {
                rows.miss(PERMUTED);
                return 0;
            }
            return size;
        }

        void divide(int s, int l) {
            for (int lane = 0; lane < lanes; lane++) {
                int from = rows.start(l, lane);
                int to = rows.end(l, lane);
                int wrong = cannotDivide(rows.cell(s, lane), rows.items(l), from, to);
                if (wrong != 0) {
                    rows.miss(wrong);
                    rows.first(0);
                } else {
                    rows.first(to - from);
                    for (int i = from; i < to; i++) {
                        rows.second(rows.cell(rows.items(l), i));
                    }
                    rows.pick(rows.items(s), rows.start(s, lane), rows.end(s, lane));
                }
            }
            give(2);
        }

        private int cannotDivide(int size, int lengths, int from, int to) {
            long total = 0;
            for (int i = from; i < to; i++) {
                int length = rows.cell(lengths, i);
                if (length < 0) {
                    return SIZE;
                }
                total += length;
            }
            return total == size ? 0 : LENGTH;
        }

        /** The slots of a part's variables below the bound (those bound outside) join the wanted, in order. */
        private void want(int part, int bound) {
            for (int k = at(tree.low, part); k <= at(tree.high, part) && k < NODES; k++) {
                if (at(tree.kind, k) == NAME && at(tree.slot, k) < bound) {
                    insert(at(tree.slot, k));
                }
            }
        }

        private void insert(int slot) {
            int i = wantedSize;
            while (i > 0 && at(wanted, i - 1) > slot) {
                i--;
            }
            if (i > 0 && at(wanted, i - 1) == slot) {
                return;
            }
            for (int j = wantedSize; j > i; j--) {
                put(wanted, j, at(wanted, j - 1));
            }
            put(wanted, i, slot);
            wantedSize++;
        }

        private void saveWanted(int k) {
            put(savedBefore, k, saved);
            for (int i = 0; i < wantedSize; i++) {
                put(savedSlot, saved, at(wanted, i));
                put(savedValue, saved, at(slots, at(wanted, i)));
                saved++;
            }
        }

        private void restore(int k) {
            for (int i = Math.min(saved, SAVED) - 1; i >= at(savedBefore, k) && i >= 0; i--) {
                put(slots, at(savedSlot, i), at(savedValue, i));
            }
            saved = at(savedBefore, k);
        }

        private boolean chosen(int choice, int lane, boolean wish) {
            return (rows.cell(choice, lane) != 0) == wish;
        }

        /** The wanted variables in those of so many lanes where the choice is as wished. */
        private void narrow(int choice, boolean wish, int among) {
            for (int i = 0; i < wantedSize && finding == 0; i++) {
                int slot = at(wanted, i);
                for (int lane = 0; lane < among; lane++) {
                    if (chosen(choice, lane, wish)) {
                        rows.pick(at(slots, slot), lane, lane + 1);
                    }
                }
                put(slots, slot, rows.seal(at(plan.slotDepth, slot), 0));
                finding = rows.ended;
            }
            lanes = 0;
            for (int lane = 0; lane < among; lane++) {
                lanes += chosen(choice, lane, wish) ? 1 : 0;
            }
        }

        private void branch(int k, int part, boolean wish) {
            wantedSize = 0;
            want(part, at(tree.slot, k));
            saveWanted(k);
            narrow(at(guide, k), wish, at(lanesOf, k));
        }

        void fork(int k) {
            put(guide, k, pop());
            branch(k, tree.second(k), true);
        }

        void turn(int k) {
            restore(k);
            branch(k, at(tree.tail, k), false);
        }

        void join(int k) {
            restore(k);
            lanes = at(lanesOf, k);
            int otherwise = pop();
            int then = pop();
            int i = 0;
            for (int lane = 0; lane < lanes; lane++) {
                if (chosen(at(guide, k), lane, true)) {
                    rows.pick(then, i, i + 1);
                    i++;
                } else {
                    rows.pick(otherwise, lane - i, lane - i + 1);
                }
            }
            depth = at(tree.depth, k);
            give(0);
        }

        void open(int k) {
            int gens = at(tree.gens, k);
            top -= gens;
            if (!asLong(gens)) {
                finding = LENGTH;
                return;
            }
            put(guide, k, at(stack, top));
            wantedSize = 0;
            want(at(tree.tail, k), at(tree.slot, k));
            if (at(tree.guard, k) >= 0) {
                want(at(tree.guard, k), at(tree.slot, k));
            }
            saveWanted(k);
            spread(at(guide, k));
            for (int i = 0; i < gens && i < GENS; i++) {
                put(slots, at(tree.slot, k) + i, rows.items(at(stack, top + i)));
            }
            lanes = rows.size(rows.items(at(guide, k)));
        }

        /** Whether the GENS behind the top of the stack are all as long, in each lane. */
        private boolean asLong(int gens) {
            for (int lane = 0; lane < lanes; lane++) {
                int size = rows.cell(at(stack, top), lane);
                for (int i = 1; i < gens && i < GENS; i++) {
                    if (rows.cell(at(stack, top + i), lane) != size) {
                        return false;
                    }
                }
            }
            return true;
        }

        /** The wanted variables, each lane as often as it has items. */
        private void spread(int lengths) {
            for (int i = 0; i < wantedSize && finding == 0; i++) {
                int slot = at(wanted, i);
                for (int lane = 0; lane < lanes && !rows.overflow; lane++) {
                    int size = rows.cell(lengths, lane);
                    for (int j = 0; j < size; j++) {
                        rows.pick(at(slots, slot), lane, lane + 1);
                    }
                }
                put(slots, slot, rows.seal(at(plan.slotDepth, slot), 0));
                finding = rows.ended;
            }
        }

        void sift(int k) {
            int choice = pop();
            // What is bound outside of the { } was saved as it was opened, and GENS end with it.
            wantedSize = 0;
            want(at(tree.tail, k), at(tree.slot, k) + at(tree.gens, k));
            narrow(choice, true, lanes);
            if (finding == 0) {
                shorten(k, choice);
            }
        }

        private void shorten(int k, int choice) {
            int lengths = at(guide, k);
            for (int lane = 0; lane < at(lanesOf, k); lane++) {
                int left = 0;
                int to = rows.end(lengths, lane);
                for (int i = rows.start(lengths, lane); i < to; i++) {
                    left += chosen(choice, i, true) ? 1 : 0;
                }
                rows.first(left);
            }
            put(guide, k, rows.seal(0, 1));
            finding = rows.ended;
        }

        void next(int k) {
        }

        void collect(int k) {
            int items = pop();
            restore(k);
            lanes = at(lanesOf, k);
            push(rows.bundle(at(guide, k), items));
        }

        void draw(int value, int nesting) {
            drawLane(value, 0, nesting);
        }

        private void drawLane(int value, int lane, int nesting) {
            int x = rows.cell(value, lane);
            image.add(x);
            if (nesting > 0) {
                for (int i = 0; i < x && i < LONGEST; i++) {
                    drawLane(rows.items(value), rows.start(value, lane) + i, nesting - 1);
                }
            }
        }
    }

    /** What a run came to: numbers, and of sequences the length and then the items; and its text. */
    private static final class Image {
        // No number of 32 bits has more.
        private static final int DIGITS = 10;
        private final int[] digits = new int[DIGITS];
        private final int[] values;
        private int size;
        private int next;
        final byte[] text = new byte[SHOWN];
        int length;

        Image(int most) {
            values = new int[Math.max(most, 0)];
        }

        void clear() {
            size = 0;
            length = 0;
        }

        void add(int x) {
            put(values, size, x);
            size++;
        }

        boolean same(Image other) {
            if (other == null || size != other.size) {
                return false;
            }
            for (int i = 0; i < size; i++) {
                if (at(values, i) != at(other.values, i)) {
                    return false;
                }
            }
            return true;
        }

        void render(int depth) {
            next = 0;
            length = 0;
            write(depth);
        }

        private void write(int depth) {
            int x = at(values, next);
            next++;
            if (depth <= 0) {
                number(x);
                return;
            }
            letter('[');
            for (int i = 0; i < x && i < LONGEST; i++) {
                if (i > 0) {
                    letter(',');
                }
                write(depth - 1);
            }
            letter(']');
        }

        private void number(int x) {
            if (x < 0) {
                letter('-');
            }
            long rest = Math.abs((long) x);
            int n = 0;
            do {
                put(digits, n, (int) (rest % 10));
                rest /= 10;
                n++;
            } while (rest > 0 && n < DIGITS);
            for (int i = n - 1; i >= 0; i--) {
                letter((char) ('0' + at(digits, i)));
            }
        }

        private void letter(char c) {
            if (length >= 0 && length < text.length) {
                text[length] = (byte) c;
            }
            length++;
        }
    }
}
