/** What the tests share: a count of wrong answers, and ways to hand a text to an object. */
final class Check {
    private static int wrong = 0;

    private Check() {
    }

    static void due(String call, long got, long want) {
        if (got != want) {
            wrong++;
            if (wrong <= 40) {
                System.out.println(call + " answered " + got + ", due is " + want);
            }
        }
    }

    static void due(String call, String got, String want) {
        if (!want.equals(got)) {
            wrong++;
            if (wrong <= 40) {
                System.out.println(call + " answered " + got + ", due is " + want);
            }
        }
    }

    static void end() {
        if (wrong > 0) {
            System.out.println(wrong + " wrong answers");
            System.exit(1);
        }
    }

    static long pack(String text, int from) {
        long w = 0;
        for (int i = 0; i < 8 && from + i < text.length(); i++) {
            w |= (long) (text.charAt(from + i) & 255) << (8 * i);
        }
        return w;
    }

    /** Feeds the whole text; it must have no zero and fit. */
    static NestedVectors feed(NestedVectors x, String text) {
        for (int i = 0; i < text.length(); i += 8) {
            x.feed(pack(text, i));
        }
        return x;
    }

    static NestedVectors fresh(String text) {
        return feed(new NestedVectors(), text);
    }

    /** A new object with the program read; a fault is told. */
    static NestedVectors program(String text) {
        NestedVectors x = fresh(text);
        int got = x.read();
        if (got <= 0) {
            due("read() of " + text, got, 1);
        }
        return x;
    }

    static String text(NestedVectors x, boolean flat) {
        int n = x.shown(flat);
        StringBuilder sb = new StringBuilder();
        for (int i = 0; i < n && i < 2000; i++) {
            sb.append((char) x.byteAt(flat, i));
        }
        return n < 0 ? "" + n : sb.toString();
    }

    static String repeat(String s, int n) {
        return s.repeat(n);
    }
}
