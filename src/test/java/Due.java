/** Counts answers that are not as due, and helps tests to fill shelves. */
final class Due {
    static final int BYTES = 0;
    static final int SHORTS = 1;
    static final int INTS = 2;

    private static int asked = 0;
    private static int wrong = 0;
    private static String sentence = "";
    private static int askedAheadOfIt = -1;

    private Due() {
    }

    /** The document's sentence that what is asked from here on belongs to; told with what is not as due. */
    static void sentence(String words) {
        endSentence();
        sentence = "[" + words + "] ";
        askedAheadOfIt = asked;
    }

    private static void endSentence() {
        if (askedAheadOfIt == asked) {
            tellWrong("nothing is asked");
        }
    }

    private static void tellWrong(String what) {
        wrong++;
        System.out.println(sentence + what);
    }

    static void same(String call, long got, long want) {
        asked++;
        if (got != want) {
            tellWrong(call + " answered " + got + ", due is " + want);
        }
    }

    /** What element answers, or the name of what it throws. */
    static String elementOrThrow(TwoThirds x, int d, int i) {
        try {
            return Long.toString(x.element(d, i));
        } catch (RuntimeException e) {
            return e.getClass().getName();
        }
    }

    static void sameText(String call, String got, String want) {
        asked++;
        if (!got.equals(want)) {
            tellWrong(call + " answered " + got + ", due is " + want);
        }
    }

    static void end(String test) {
        endSentence();
        System.out.println(test + ": " + asked + " answers, " + wrong + " not as due");
        if (wrong != 0 || asked == 0) {
            System.exit(1);
        }
    }

    static void fill(TwoThirds x, int d, int sort, int... values) {
        same("row(" + d + ", " + sort + ", " + values.length + ")", x.row(d, sort, values.length), 0);
        for (int i = 0; i < values.length; i++) {
            same("put(" + d + ", " + i + ", " + values[i] + ")", x.put(d, i, values[i]), 0);
        }
    }

    static void write(TwoThirds x, int d, String text) {
        int[] signs = new int[text.length()];
        for (int i = 0; i < signs.length; i++) {
            signs[i] = text.charAt(i);
        }
        fill(x, d, BYTES, signs);
    }

    /** A crowd by way of shelf 7, which holds nothing afterwards. */
    static void crowd(TwoThirds x, String text, long want) {
        write(x, 7, text);
        same("crowd " + text, x.crowd(7), want);
        same("keep(7, 0, 0)", x.keep(7, 0, 0), 0);
    }

    static TwoThirds with(String text, long statements) {
        TwoThirds x = new TwoThirds();
        crowd(x, text, statements);
        return x;
    }

    /** The number from which one draw leads to z. */
    static int zAheadOf(int z) {
        int step = 1103515245;
        int turnedBack = step;
        for (int i = 0; i < 5; i++) {
            turnedBack *= 2 - step * turnedBack;
        }
        return (z - 12345) * turnedBack;
    }

    static int zOf(TwoThirds x) {
        int z = x.set(4, 0);
        x.set(4, z);
        return z;
    }
}
