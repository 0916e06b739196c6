/** The edges of promises 1 to 3, of THE TAPE, and of the 512 calls of an object. */
public final class TapeEdgesTest {
    public static void main(String[] args) {
        newObject();
        tapeOf1200();
        feedTakesUpToEight();
        zeroEndsThem();
        everyByteComes();
        fullChangesNothing();
        cutKeepsTheFirst();
        cutIsBad();
        lastOf512Calls();
        Check.end();
    }

    /** "An empty TAPE, no PROGRAM." */
    private static void newObject() {
        NestedVectors x = new NestedVectors();
        Check.due("about(3) of a new object", x.about(3), 0);
        Check.due("fault() ahead of any read()", x.fault(), 0);
        Edge.noProgram(x, " of a new object");
        Check.due("cut(0) of a new object", x.cut(0), 0);
        Check.due("cut(1) of a new object", x.cut(1), Edge.BAD);
        Check.due("read() of a new object", x.read(), -100);
    }

    /** "THE TAPE has bytes, 1200 at most." */
    private static void tapeOf1200() {
        NestedVectors x = new NestedVectors();
        long blanks = 0x2020202020202020L;
        for (int i = 1; i <= 149; i++) {
            Check.due("feed " + i, x.feed(blanks), 8 * i);
        }
        Check.due("feed up to 1200", x.feed(0x3720202020202020L), 1200);
        Check.due("feed of one more", x.feed(0x20L), Edge.FULL);
        Check.due("feed of eight more", x.feed(blanks), Edge.FULL);
        Check.due("about(3)", x.about(3), 1200);
        Check.due("read() of 1200 bytes", x.read(), 1);
        Check.due("the last byte's place", x.node(0, 0), 1199);
        Check.due("about(3) behind the read", x.about(3), 0);
        Check.due("feed behind the read", x.feed(blanks), 8);
        // A fault at the very end of a full tape.
        NestedVectors y = Check.fresh(" ".repeat(1199) + "+");
        Check.due("read() of a + at 1199", y.read(), -100 - 1199);
        Check.due("the tape is still full", y.feed('1'), Edge.FULL);
        NestedVectors z = Check.fresh("1" + " ".repeat(1198) + "+");
        Check.due("read() up to the end at 1200", z.read(), -100 - 1200);
        NestedVectors all = Check.fresh(" ".repeat(1200));
        Check.due("read() of 1200 blanks", all.read(), -100 - 1200);
        Check.due("about(3) of 1200 blanks", all.about(3), 1200);
    }

    /** "Eight bytes come behind THE TAPE, the lowest of w first": none, each number of them, all eight. */
    private static void feedTakesUpToEight() {
        for (int n = 0; n <= 8; n++) {
            NestedVectors x = new NestedVectors();
            String digits = "12345678".substring(0, n);
            Check.due("feed of " + n, x.feed(Check.pack(digits, 0)), n);
            Check.due("about(3) behind " + n, x.about(3), n);
            x.feed('9');
            Check.due("read() behind " + n, x.read(), 1);
            x.nested();
            Check.due("what came of " + n, Check.text(x, false), digits + "9");
        }
    }

    /** "as far as they are not 0 (a 0 ends them)", wherever it stands. */
    private static void zeroEndsThem() {
        for (int zero = 0; zero < 8; zero++) {
            NestedVectors x = new NestedVectors();
            long w = 0x3131313131313131L & ~(255L << (8 * zero));
            Check.due("feed with a 0 at " + zero, x.feed(w), zero);
            Check.due("feed behind a 0 at " + zero, x.feed('2'), zero + 1);
            x.read();
            x.flat();
            Check.due("what came ahead of a 0 at " + zero, Check.text(x, true), "1".repeat(zero) + "2");
        }
    }

    /** A byte is 1 to 255; those above 127 are bytes as well. */
    private static void everyByteComes() {
        for (int b = 1; b <= 255; b++) {
            NestedVectors x = new NestedVectors();
            Check.due("feed of byte " + b, x.feed(b), 1);
            Check.due("feed of byte " + b + " as the eighth", x.feed((long) b << 56 | 0x20202020202020L), 9);
        }
        NestedVectors x = new NestedVectors();
        Check.due("feed(-1)", x.feed(-1L), 8);
        Check.due("feed(min)", x.feed(Long.MIN_VALUE), 8);
        Check.due("feed(max)", x.feed(Long.MAX_VALUE), 16);
        Check.due("read() of bytes 255", x.read(), -100);
    }

    /** "FULL: there would be more than 1200": at each rest from 8 down, the last that fits and the first that does not. */
    private static void fullChangesNothing() {
        for (int rest = 0; rest < 8; rest++) {
            NestedVectors x = Check.fresh("1+" + " ".repeat(1198 - rest));
            Check.due("feed of " + (rest + 1) + " onto " + rest, x.feed(Check.pack("3".repeat(rest + 1), 0)), Edge.FULL);
            Check.due("about(3) behind FULL", x.about(3), 1200 - rest);
            Check.due("read() behind FULL has nothing of it", x.read(), -100 - (1200 - rest));
            Check.due("feed of " + rest + " onto " + rest, x.feed(Check.pack("4".repeat(rest), 0)), 1200);
            Check.due("feed of none onto 1200", x.feed(0L), 1200);
            Check.due("feed of a 0 and more onto 1200", x.feed(0x3500L), 1200);
            Check.due("read() of all", x.read(), rest == 0 ? -1300 : 3);
            x.nested();
            int four = rest == 0 ? 0 : Integer.parseInt("4".repeat(rest));
            Check.due("what came", Check.text(x, false), rest == 0 ? "-4" : "" + (1 + four));
        }
    }

    /** "THE TAPE keeps its first n bytes: how many went." */
    private static void cutKeepsTheFirst() {
        for (int n = 0; n <= 5; n++) {
            NestedVectors x = Check.fresh("12345");
            Check.due("cut(" + n + ")", x.cut(n), 5 - n);
            Check.due("about(3) behind cut(" + n + ")", x.about(3), n);
            Check.due("cut(" + n + ") once more", x.cut(n), 0);
            Check.due("feed behind cut(" + n + ")", x.feed('7'), n + 1);
            Check.due("read() behind cut(" + n + ")", x.read(), 1);
            x.nested();
            Check.due("kept by cut(" + n + ")", Check.text(x, false), "12345".substring(0, n) + "7");
        }
        NestedVectors full = Check.fresh(" ".repeat(1200));
        Check.due("cut(1200) of 1200", full.cut(1200), 0);
        Check.due("cut(1199) of 1200", full.cut(1199), 1);
        Check.due("feed of one behind it", full.feed('1'), 1200);
        Check.due("cut(0) of 1200", full.cut(0), 1200);
        Check.due("about(3) behind cut(0)", full.about(3), 0);
        // The program and its runs stand till the next read.
        NestedVectors x = Check.program("5");
        x.nested();
        Check.feed(x, "6");
        Check.due("cut(0) with a program", x.cut(0), 1);
        Check.due("the program stays", x.about(0), 1);
        Check.due("its run stays", Check.text(x, false), "5");
    }

    /** "BAD": fewer than none, more than there are. */
    private static void cutIsBad() {
        int[] wrong = {-1, 6, 7, 1200, 1201, Integer.MIN_VALUE, Integer.MAX_VALUE};
        NestedVectors x = Check.fresh("12345");
        for (int n : wrong) {
            Check.due("cut(" + n + ") of 5", x.cut(n), Edge.BAD);
            Check.due("about(3) behind cut(" + n + ")", x.about(3), 5);
        }
        Check.due("cut(5) of 5", x.cut(5), 0);
        x.read();
        x.nested();
        Check.due("nothing went", Check.text(x, false), "12345");
        Check.due("cut(-1) of an empty tape", x.cut(-1), Edge.BAD);
        Check.due("cut(1) of an empty tape", x.cut(1), Edge.BAD);
        NestedVectors full = Check.fresh(" ".repeat(1200));
        Check.due("cut(1201) of 1200", full.cut(1201), Edge.BAD);
        Check.due("about(3) of 1200", full.about(3), 1200);
    }

    /** "An object is used for at most 512 calls": the last ones answer like the first. */
    private static void lastOf512Calls() {
        NestedVectors x = new NestedVectors();
        int calls = 0;
        // 12 calls a round: 42 rounds are 504, and 8 more.
        for (int round = 0; round < 42; round++) {
            boolean runs = round < 20;
            Check.due("feed in round " + round, x.feed(Check.pack("{x:x in ", 0)), 8);
            Check.due("feed in round " + round, x.feed(Check.pack("[1,2]}", 0)), 14);
            Check.due("read() in round " + round, x.read(), 5);
            Check.due("nested() in round " + round, x.nested(), runs ? 0 : Edge.FULL);
            Check.due("flat() in round " + round, x.flat(), runs ? 0 : Edge.FULL);
            Check.due("meter(0) in round " + round, x.meter(0), runs ? 10 : Edge.STATE);
            Check.due("meter(3) in round " + round, x.meter(3), runs ? 5 : Edge.STATE);
            Check.due("shown(false) in round " + round, x.shown(false), runs ? 5 : Edge.STATE);
            Check.due("byteAt(true, 3) in round " + round, x.byteAt(true, 3), runs ? '2' : Edge.STATE);
            Check.due("alike() in round " + round, x.alike(), runs ? 1 : Edge.STATE);
            Check.due("node(4, 1) in round " + round, x.node(4, 1), 0);
            Check.due("about(2) in round " + round, x.about(2), 1);
            calls += 12;
        }
        while (calls < 511) {
            Check.due("fault() as call " + calls, x.fault(), 0);
            calls++;
        }
        Check.due("read() as the 512th call", x.read(), -100);
    }
}
