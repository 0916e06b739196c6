/** Promises 1 to 3: a new object, feed, cut. */
public final class TapeTest {
    public static void main(String[] args) {
        newObject();
        feeding();
        cutting();
        Check.end();
    }

    private static void newObject() {
        NestedVectors x = new NestedVectors();
        Check.due("about(3) of a new object", x.about(3), 0);
        Check.due("fault() of a new object", x.fault(), 0);
        for (int what = 0; what < 3; what++) {
            Check.due("about of a new object", x.about(what), NestedVectors.STATE);
        }
        Check.due("node(0, 0) of a new object", x.node(0, 0), NestedVectors.STATE);
        Check.due("nested() of a new object", x.nested(), NestedVectors.STATE);
        Check.due("flat() of a new object", x.flat(), NestedVectors.STATE);
        for (int what = 0; what < 5; what++) {
            Check.due("meter of a new object", x.meter(what), NestedVectors.STATE);
        }
        Check.due("shown of a new object", x.shown(true), NestedVectors.STATE);
        Check.due("byteAt of a new object", x.byteAt(false, -1), NestedVectors.STATE);
        Check.due("alike of a new object", x.alike(), NestedVectors.STATE);
        Check.due("cut(0) of a new object", x.cut(0), 0);
        Check.due("NONE", NestedVectors.NONE, -1);
        Check.due("BAD", NestedVectors.BAD, -2);
        Check.due("FULL", NestedVectors.FULL, -3);
        Check.due("STATE", NestedVectors.STATE, -4);
    }

    private static void feeding() {
        NestedVectors x = new NestedVectors();
        Check.due("feed(0)", x.feed(0), 0);
        Check.due("feed('1')", x.feed('1'), 1);
        Check.due("feed with a 0 inside", x.feed('2' | (long) '3' << 16), 2);
        Check.due("feed with a 0 first", x.feed(0x3131313131313100L), 2);
        Check.due("read() of 12", x.read(), 1);
        x.nested();
        Check.due("12, lowest byte first", Check.text(x, false), "12");
        Check.due("feed(-1)", x.feed(-1L), 8);
        Check.due("read() of bytes 255", x.read(), -100);

        NestedVectors full = Check.fresh(" ".repeat(1199));
        Check.due("about(3)", full.about(3), 1199);
        Check.due("feed of 2 onto 1199", full.feed(0x3131L), NestedVectors.FULL);
        Check.due("nothing came", full.about(3), 1199);
        Check.due("feed of 1 onto 1199", full.feed(0x31L), 1200);
        Check.due("feed of 0 onto 1200", full.feed(0L), 1200);
        Check.due("feed of 1 onto 1200", full.feed(0x31L), NestedVectors.FULL);
        Check.due("feed of a 0 first onto 1200", full.feed(0x3100L), 1200);
        Check.due("read() of 1200 bytes", full.read(), 1);
        Check.due("its place", full.node(0, 0), 1199);
    }

    private static void cutting() {
        NestedVectors x = Check.fresh("12345");
        Check.due("cut(6)", x.cut(6), NestedVectors.BAD);
        Check.due("cut(-1)", x.cut(-1), NestedVectors.BAD);
        Check.due("cut(min)", x.cut(Integer.MIN_VALUE), NestedVectors.BAD);
        Check.due("cut(max)", x.cut(Integer.MAX_VALUE), NestedVectors.BAD);
        Check.due("about(3)", x.about(3), 5);
        Check.due("cut(5)", x.cut(5), 0);
        Check.due("cut(3)", x.cut(3), 2);
        Check.due("feed behind a cut", x.feed('9'), 4);
        Check.due("read()", x.read(), 1);
        x.flat();
        Check.due("what was kept", Check.text(x, true), "1239");
        Check.due("cut(0) of an empty tape", x.cut(0), 0);
        Check.due("cut(1) of an empty tape", x.cut(1), NestedVectors.BAD);
    }
}
