/** Promises 4 to 13 on programs made by chance, against the Oracle. The seeds are fixed. */
public final class RandomTest {
    private static final int[] ended = new int[9];
    private static final int[] faults = new int[4];

    public static void main(String[] args) {
        int rounds = args.length > 0 ? Integer.parseInt(args[0]) : 6000;
        long first = args.length > 1 ? Long.parseLong(args[1]) : 1;
        for (long seed = first; seed < first + rounds; seed++) {
            Programs programs = new Programs(seed);
            String text = programs.make();
            compare(text);
            compare(programs.spoil(text));
        }
        if (args.length > 0) {
            System.out.println("findings " + java.util.Arrays.toString(ended) + " faults " + java.util.Arrays.toString(faults));
        }
        Check.end();
    }

    private static void compare(String text) {
        if (text.length() > 1200) {
            return;
        }
        Oracle o = new Oracle(text);
        NestedVectors x = Check.fresh(text);
        String where = " of " + text.replace('\n', ' ');
        faults[o.fault]++;
        if (o.fault != 0) {
            Check.due("read()" + where, x.read(), -100 - o.faultPlace);
            Check.due("fault()" + where, x.fault(), o.fault);
            Check.due("about(0)" + where, x.about(0), NestedVectors.STATE);
            Check.due("about(3)" + where, x.about(3), text.length());
            return;
        }
        Check.due("read()" + where, x.read(), o.nodes.size());
        Check.due("fault()" + where, x.fault(), 0);
        Check.due("about(0)" + where, x.about(0), o.nodes.size());
        Check.due("about(1)" + where, x.about(1), o.defs.size());
        Check.due("about(2)" + where, x.about(2), o.root.depth);
        for (int k = 0; k < o.nodes.size(); k++) {
            Check.due("node(" + k + ", 0)" + where, x.node(k, 0), o.nodes.get(k).place);
        }
        runs(o, Check.program(text), where);
    }

    /** On an object of its own: one is used for 512 calls. */
    private static void runs(Oracle o, NestedVectors x, String where) {
        for (int k = 0; k < o.nodes.size(); k++) {
            Check.due("node(" + k + ", 1)" + where, x.node(k, 1), o.nodes.get(k).depth);
        }
        o.runNested();
        o.runFlat();
        ended[o.nestedEnd]++;
        ended[o.flatEnd]++;
        Check.due("nested()" + where, x.nested(), o.nestedEnd);
        Check.due("flat()" + where, x.flat(), o.flatEnd);
        Check.due("meter(0)" + where, x.meter(0), o.work);
        Check.due("meter(1)" + where, x.meter(1), o.nestedEnd == 0 ? o.span : NestedVectors.STATE);
        Check.due("meter(2)" + where, x.meter(2), o.steps);
        Check.due("meter(3)" + where, x.meter(3), o.cells);
        Check.due("meter(4)" + where, x.meter(4), o.most);
        Check.due("alike()" + where, x.alike(), o.alike());
        shown(x, false, o.nestedEnd, o.nestedText, where);
        shown(x, true, o.flatEnd, o.flatText, where);
    }

    private static void shown(NestedVectors x, boolean flat, int end, String text, String where) {
        if (end != 0) {
            Check.due("shown(" + flat + ")" + where, x.shown(flat), NestedVectors.STATE);
            Check.due("byteAt(" + flat + ", 0)" + where, x.byteAt(flat, 0), NestedVectors.STATE);
            return;
        }
        int told = Math.min(2000, text.length());
        Check.due("shown(" + flat + ")" + where, x.shown(flat), text.length());
        // Of a long text its beginning and its end are looked at.
        for (int i = 0; i < told; i += i == 19 && told > 40 ? told - 39 : 1) {
            Check.due("byteAt(" + flat + ", " + i + ")" + where, x.byteAt(flat, i), text.charAt(i));
        }
        Check.due("byteAt behind" + where, x.byteAt(flat, told), NestedVectors.NONE);
    }
}
