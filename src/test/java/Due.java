/** Counts answers that are not as due, and helps tests to fill shelves. */
final class Due {
    static final int BYTES = 0;
    static final int SHORTS = 1;
    static final int INTS = 2;

    private static int asked = 0;
    private static int wrong = 0;

    private Due() {
    }

    static void same(String call, long got, long want) {
        asked++;
        if (got != want) {
            wrong++;
            System.out.println(call + " answered " + got + ", due is " + want);
        }
    }

    /** What element answers, or the name of what it throws. */
    static String elementOrThrow(TwoThirds x, int d, int i) {
        try {
            return Long.toString(x.element(d, i));
        } catch (RuntimeException e) {
            return e.getClass().getName();
        }
    }

    static void sameText(String call, String got, String want) {
        asked++;
        if (!got.equals(want)) {
            wrong++;
            System.out.println(call + " answered " + got + ", due is " + want);
        }
    }

    static void end(String test) {
        System.out.println(test + ": " + asked + " answers, " + wrong + " not as due");
        if (wrong != 0 || asked == 0) {
            System.exit(1);
        }
    }

    static void fill(TwoThirds x, int d, int sort, int... values) {
        same("row(" + d + ", " + sort + ", " + values.length + ")", x.row(d, sort, values.length), 0);
        for (int i = 0; i < values.length; i++) {
            same("put(" + d + ", " + i + ", " + values[i] + ")", x.put(d, i, values[i]), 0);
        }
    }

    static void write(TwoThirds x, int d, String text) {
        int[] signs = new int[text.length()];
        for (int i = 0; i < signs.length; i++) {
            signs[i] = text.charAt(i);
        }
        fill(x, d, BYTES, signs);
    }

    /** A crowd by way of shelf 7, which holds nothing afterwards. */
    static void crowd(TwoThirds x, String text, long want) {
        write(x, 7, text);
        same("crowd " + text, x.crowd(7), want);
        same("keep(7, 0, 0)", x.keep(7, 0, 0), 0);
    }

    static TwoThirds with(String text, long statements) {
        TwoThirds x = new TwoThirds();
        crowd(x, text, statements);
        return x;
    }
}
