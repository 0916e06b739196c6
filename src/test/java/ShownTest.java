/** Promises 11 to 13: shown, byteAt, alike. */
public final class ShownTest {
    public static void main(String[] args) {
        texts();
        longText();
        states();
        indexes();
        alike();
        Check.end();
    }

    private static void texts() {
        shows("0", "0");
        shows("0-1", "-1");
        shows("10*10", "100");
        shows("0-2147483*1000-648", "-2147483648");
        shows("2147483*1000+647", "2147483647");
        shows("999999999+1", "1000000000");
        shows("iota(0)", "[]");
        shows("[0-1,20,300]", "[-1,20,300]");
        shows("[[0-1],iota(0),[20,300]]", "[[-1],[],[20,300]]");
        shows("[[[1],iota(0)],[[2,3]]]", "[[[1],[]],[[2,3]]]");
        shows("dist([[1]],0)", "[]");
        shows("dist(dist(1,0),2)", "[[],[]]");
    }

    private static void shows(String text, String due) {
        NestedVectors x = Check.program(text);
        x.nested();
        x.flat();
        for (int run = 0; run < 2; run++) {
            boolean flat = run == 1;
            Check.due("shown of " + text, x.shown(flat), due.length());
            Check.due("text of " + text, Check.text(x, flat), due);
            Check.due("byteAt behind " + text, x.byteAt(flat, due.length()), NestedVectors.NONE);
        }
    }

    /** All bytes are counted, but only the first 2000 are told. */
    private static void longText() {
        NestedVectors x = Check.program("dist(999999999,200)");
        x.nested();
        x.flat();
        for (int run = 0; run < 2; run++) {
            boolean flat = run == 1;
            Check.due("shown of 2001", x.shown(flat), 2001);
            Check.due("byteAt 1999 of 2001", x.byteAt(flat, 1999), '9');
            Check.due("byteAt 2000 of 2001", x.byteAt(flat, 2000), NestedVectors.NONE);
            Check.due("byteAt 0 of 2001", x.byteAt(flat, 0), '[');
            Check.due("byteAt 10 of 2001", x.byteAt(flat, 10), ',');
        }
        x = Check.program("cat(dist(999999999,199),[99999999])");
        x.nested();
        x.flat();
        Check.due("shown of 2000", x.shown(true), 2000);
        Check.due("byteAt 1999 of 2000", x.byteAt(true, 1999), ']');
        Check.due("byteAt 1999 of 2000", x.byteAt(false, 1999), ']');
        x = Check.program("dist(dist(0-999999999,100),50)");
        Check.due("flat()", x.flat(), 0);
        // 50 sequences of 100 numbers with 10 bytes, and what stands between.
        Check.due("shown of many", x.shown(true), 1 + 50 * (2 + 100 * 10 + 99) + 49 + 1);
        Check.due("byteAt of many", x.byteAt(true, 1999), at(1999));
    }

    private static int at(int i) {
        String one = "[" + "-999999999,".repeat(99) + "-999999999]";
        return ("[" + (one + ",").repeat(49) + one + "]").charAt(i);
    }

    private static void states() {
        NestedVectors x = Check.program("1");
        Check.due("shown ahead of runs", x.shown(false), NestedVectors.STATE);
        Check.due("byteAt ahead of runs", x.byteAt(true, 0), NestedVectors.STATE);
        x.nested();
        Check.due("shown(false)", x.shown(false), 1);
        Check.due("shown(true) without a flat run", x.shown(true), NestedVectors.STATE);
        Check.due("byteAt(true) without a flat run", x.byteAt(true, 0), NestedVectors.STATE);
        x = Check.program("1");
        x.flat();
        Check.due("shown(true)", x.shown(true), 1);
        Check.due("shown(false) without a nested run", x.shown(false), NestedVectors.STATE);
        x = Check.program("1/0");
        x.nested();
        x.flat();
        Check.due("shown(false) of a finding", x.shown(false), NestedVectors.STATE);
        Check.due("shown(true) of a finding", x.shown(true), NestedVectors.STATE);
        Check.due("byteAt(false, 0) of a finding", x.byteAt(false, 0), NestedVectors.STATE);
        Check.due("byteAt(true, -1) of a finding", x.byteAt(true, -1), NestedVectors.STATE);
        x = Check.program("dist(dist(iota(200),200),200)");
        x.nested();
        x.flat();
        Check.due("shown(false) of OVER", x.shown(false), NestedVectors.STATE);
        Check.due("shown(true) of ROOM", x.shown(true), NestedVectors.STATE);
    }

    private static void indexes() {
        NestedVectors x = Check.program("[12]");
        x.nested();
        x.flat();
        int[] wrong = {-1, 4, 5, 2000, Integer.MAX_VALUE, Integer.MIN_VALUE};
        for (int i : wrong) {
            Check.due("byteAt(false, " + i + ")", x.byteAt(false, i), NestedVectors.NONE);
            Check.due("byteAt(true, " + i + ")", x.byteAt(true, i), NestedVectors.NONE);
        }
        Check.due("byteAt(false, 3)", x.byteAt(false, 3), ']');
        // A shorter text leaves nothing of a longer one behind.
        Check.feed(x, "7");
        x.read();
        x.nested();
        x.flat();
        Check.due("byteAt(true, 1) of 7", x.byteAt(true, 1), NestedVectors.NONE);
        Check.due("byteAt(false, 0) of 7", x.byteAt(false, 0), '7');
    }

    private static void alike() {
        NestedVectors x = Check.program("[[1],[2,3]]");
        Check.due("alike() ahead of runs", x.alike(), NestedVectors.STATE);
        x.nested();
        Check.due("alike() behind one run", x.alike(), NestedVectors.STATE);
        x.flat();
        Check.due("alike() behind both", x.alike(), 1);
        x = Check.program("1");
        x.flat();
        Check.due("alike() behind the flat run", x.alike(), NestedVectors.STATE);
        ends("1/0", 2);
        // Two findings that are not the same are both findings.
        ends("{[1/x,[1][x]]:x in [1,0]}", 2);
        // OVER alone, ROOM alone, and both.
        ends("dist(iota(80),40)", NestedVectors.STATE);
        ends("dist(dist(iota(200),200),200)", NestedVectors.STATE);
        ends("{let s=iota(100) in sum(s)*0:x in iota(70)}", NestedVectors.STATE);
        // The nested run ends by a finding ahead of what the flat run has no ROOM for.
        ends("{[1/x,#dist(iota(200),50*x)]:x in [0,1]}", 2);
        ends("{if x then #dist(iota(200),50) else 1/0:x in [0,1]}", NestedVectors.STATE);
        ends("max(iota(0))", 2);
    }

    private static void ends(String text, int due) {
        NestedVectors x = Check.program(text);
        x.nested();
        x.flat();
        Check.due("alike() of " + text, x.alike(), due);
    }
}
