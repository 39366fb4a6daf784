/** Promises 29 to 35: keep, row, put, element, copy, depth, toss. */
public final class ShelvesTest {
    private static final String NO_SHELF = "java.lang.IllegalArgumentException";
    private static final String NO_PLACE = "java.lang.IllegalStateException";

    public static void main(String[] args) {
        keep();
        row();
        put();
        element();
        copy();
        copyWithinARow();
        depth();
        toss();
        Due.end("ShelvesTest");
    }

    private static void keep() {
        TwoThirds x = Due.with("p1 2 3;p2 4 0;", 2);
        Due.same("keep a person", x.keep(0, 1, 1), 0);
        Due.same("depth", x.depth(0), 41);
        x.steps(1, 9);
        Due.same("as it was then", x.depth(0), 41);
        Due.same("keep nothing", x.keep(0, 0, -7), 0);
        Due.same("nothing", x.depth(0), -1000000011);
        Due.fill(x, 0, Due.BYTES, 1);
        Due.same("a person in place of a row", x.keep(0, 1, 0), 0);
        Due.same("depth", x.depth(0), 4);
        Due.same("no row", x.put(0, 0, 0), -12);
        Due.same("person 2", x.keep(0, 1, 2), -1);
        Due.same("person -1", x.keep(0, 1, -1), -1);
        Due.same("it stays", x.depth(0), 4);
        Due.same("what 2", x.keep(0, 2, 0), -1);
        Due.same("what -1", x.keep(0, -1, 0), -1);
        Due.same("shelf 8", x.keep(8, 0, 0), -1);
        Due.same("shelf -1", x.keep(-1, 1, 0), -1);
        Due.same("shelf 7", x.keep(7, 1, 0), 0);
        Due.fill(x, 1, Due.BYTES, 1);
        Due.same("nothing in place of a row", x.keep(1, 0, 0), 0);
        Due.same("nothing", x.put(1, 0, 0), -11);
    }

    private static void row() {
        TwoThirds x = Due.with("p0 0 0;", 1);
        for (int sort = 0; sort < 3; sort++) {
            Due.same("100 elements", x.row(0, sort, 100), 0);
            Due.sameText("the last is 0", Due.elementOrThrow(x, 0, 99), "0");
            Due.same("put", x.put(0, 99, 5), 0);
            Due.same("put", x.put(0, 0, 6), 0);
        }
        Due.same("100 again", x.row(0, 0, 100), 0);
        Due.sameText("all are 0", Due.elementOrThrow(x, 0, 99), "0");
        Due.sameText("all are 0", Due.elementOrThrow(x, 0, 0), "0");
        Due.same("0 elements", x.row(0, 0, 0), 0);
        Due.sameText("no place", Due.elementOrThrow(x, 0, 0), NO_PLACE);
        Due.same("101", x.row(0, 0, 101), -1);
        Due.same("-1", x.row(0, 2, -1), -14);
        Due.same("least int", x.row(0, 2, Integer.MIN_VALUE), -14);
        Due.same("sort 3", x.row(0, 3, 1), -1);
        Due.same("sort -1", x.row(0, -1, 1), -1);
        Due.same("-1 ahead of -14", x.row(0, 3, -1), -1);
        Due.same("-1 ahead of -14", x.row(8, 0, -1), -1);
        Due.same("shelf -1", x.row(-1, 0, 1), -1);
        x.keep(1, 1, 0);
        Due.same("refused", x.row(1, 0, -1), -14);
        Due.same("the person stays", x.depth(1), 1);
        Due.same("a row in place of a person", x.row(1, 1, 1), 0);
        Due.same("a row", x.depth(1), -1000000012);
    }

    private static void put() {
        TwoThirds x = Due.with("p0 0 0;", 1);
        int[] values = {0, 127, 128, 255, 256, -128, -129, 32767, 32768, 65535, 65536, -32769, Integer.MAX_VALUE, Integer.MIN_VALUE};
        for (int v : values) {
            Due.fill(x, 0, Due.BYTES, v);
            Due.sameText("byte " + v, Due.elementOrThrow(x, 0, 0), Integer.toString((byte) v));
            Due.fill(x, 0, Due.SHORTS, v);
            Due.sameText("short " + v, Due.elementOrThrow(x, 0, 0), Integer.toString((short) v));
            Due.fill(x, 0, Due.INTS, v);
            Due.sameText("int " + v, Due.elementOrThrow(x, 0, 0), Integer.toString(v));
        }
        Due.fill(x, 0, Due.INTS, 1, 2, 3);
        Due.same("put", x.put(0, 1, 9), 0);
        Due.sameText("element", Due.elementOrThrow(x, 0, 0), "1");
        Due.sameText("element", Due.elementOrThrow(x, 0, 1), "9");
        Due.sameText("element", Due.elementOrThrow(x, 0, 2), "3");
        Due.same("place 3", x.put(0, 3, 0), -13);
        Due.same("place -1", x.put(0, -1, 0), -13);
        Due.same("place 100", x.put(0, 100, 0), -13);
        Due.same("shelf 8", x.put(8, 0, 0), -1);
        Due.same("shelf -1", x.put(-1, 0, 0), -1);
        Due.same("-11", x.put(1, 0, 0), -11);
        x.keep(1, 1, 0);
        Due.same("-12", x.put(1, 0, 0), -12);
    }

    private static void element() {
        TwoThirds x = Due.with("p0 0 0;", 1);
        Due.fill(x, 0, Due.SHORTS, -5, 6);
        Due.sameText("element", Due.elementOrThrow(x, 0, 0), "-5");
        Due.sameText("element", Due.elementOrThrow(x, 0, 1), "6");
        Due.sameText("place 2", Due.elementOrThrow(x, 0, 2), NO_PLACE);
        Due.sameText("place -1", Due.elementOrThrow(x, 0, -1), NO_PLACE);
        Due.sameText("place 100", Due.elementOrThrow(x, 0, 100), NO_PLACE);
        Due.sameText("nothing", Due.elementOrThrow(x, 1, 0), NO_PLACE);
        x.keep(1, 1, 0);
        Due.sameText("a person", Due.elementOrThrow(x, 1, 0), NO_PLACE);
        Due.sameText("shelf 8", Due.elementOrThrow(x, 8, 0), NO_SHELF);
        Due.sameText("shelf -1", Due.elementOrThrow(x, -1, -1), NO_SHELF);
    }

    private static void copy() {
        TwoThirds x = Due.with("p0 0 0;", 1);
        Due.fill(x, 0, Due.INTS, 1, 2, 3, 4);
        Due.fill(x, 1, Due.INTS, 9, 9, 9);
        Due.same("copy", x.copy(0, 1, 1, 0, 2), 2);
        sameRow(x, 1, 2, 3, 9);
        sameRow(x, 0, 1, 2, 3, 4);
        Due.same("none", x.copy(0, 4, 1, 3, 0), 0);
        Due.same("one beyond", x.copy(0, 5, 1, 0, 0), -13);
        Due.same("one beyond", x.copy(0, 0, 1, 4, 0), -13);
        Due.same("i -1", x.copy(0, -1, 1, 0, 1), -13);
        Due.same("j -1", x.copy(0, 0, 1, -1, 1), -13);
        Due.same("n -1", x.copy(0, 1, 1, 1, -1), -13);
        Due.same("too many of d", x.copy(0, 3, 1, 0, 2), -13);
        Due.same("too many for e", x.copy(0, 0, 1, 2, 2), -13);
        Due.same("by far", x.copy(0, 1, 1, 0, Integer.MAX_VALUE), -13);
        Due.same("by far", x.copy(0, Integer.MAX_VALUE, 1, 0, 1), -13);
        Due.same("by far", x.copy(0, Integer.MIN_VALUE, 1, 0, Integer.MIN_VALUE), -13);
        sameRow(x, 1, 2, 3, 9);
        Due.same("shelf 8", x.copy(8, 0, 1, 0, 1), -1);
        Due.same("shelf 8", x.copy(0, 0, 8, 0, 1), -1);
        Due.same("shelf -1", x.copy(-1, 0, 1, 0, 1), -1);
        Due.same("shelf -1", x.copy(0, 0, -1, 0, 1), -1);
        Due.same("-11", x.copy(2, 0, 1, 0, 1), -11);
        Due.same("-11", x.copy(0, 0, 2, 0, 1), -11);
        Due.fill(x, 3, Due.SHORTS, 1, 2, 3, 4);
        Due.same("unlike sorts", x.copy(0, 0, 3, 0, 1), -12);
        Due.same("unlike sorts ahead of places", x.copy(3, -1, 0, 0, 1), -12);
        x.keep(4, 1, 0);
        x.keep(5, 1, 0);
        Due.same("a person", x.copy(4, 0, 0, 0, 1), -12);
        Due.same("a person", x.copy(0, 0, 4, 0, 1), -12);
        Due.same("two persons", x.copy(4, 0, 5, 0, 0), -12);
        Due.same("-11 ahead of -12", x.copy(4, 0, 2, 0, 1), -11);
    }

    private static void copyWithinARow() {
        TwoThirds x = new TwoThirds();
        Due.fill(x, 0, Due.BYTES, 1, 2, 3, 4, 5);
        Due.same("onward", x.copy(0, 0, 0, 1, 4), 4);
        sameRow(x, 0, 1, 1, 2, 3, 4);
        Due.same("back", x.copy(0, 2, 0, 0, 3), 3);
        sameRow(x, 0, 2, 3, 4, 3, 4);
        Due.same("onto itself", x.copy(0, 0, 0, 0, 5), 5);
        sameRow(x, 0, 2, 3, 4, 3, 4);
    }

    private static void sameRow(TwoThirds x, int d, int... due) {
        for (int i = 0; i < due.length; i++) {
            Due.sameText("element(" + d + ", " + i + ")", Due.elementOrThrow(x, d, i), Integer.toString(due[i]));
        }
        Due.sameText("its size", Due.elementOrThrow(x, d, due.length), NO_PLACE);
    }

    private static void depth() {
        TwoThirds x = Due.with("p0 3 7;p1 3 7;p2 3 7;p3 3 7;p4 3 7;p5 3 7;p6 3 7;p7 3 7;", 8);
        int[] due = {1, 8, 31, 62, 91, -6, 36, 4};
        for (int i = 0; i < 8; i++) {
            x.keep(i, 1, i);
            Due.same("depth(" + i + ")", x.depth(i), due[i]);
        }
        Due.same("depth(8)", x.depth(8), -1000000001);
        Due.same("depth(-1)", x.depth(-1), -1000000001);
        x.keep(0, 0, 0);
        Due.same("nothing", x.depth(0), -1000000011);
        x.row(0, 0, 1);
        Due.same("a row", x.depth(0), -1000000012);
        TwoThirds y = Due.with("p7 0 20;p7 0 0;p5 0 20;p6 0 0;p3 9 0;", 5);
        int[] dueToo = {10, 0, -19, 6, 182};
        for (int i = 0; i < 5; i++) {
            y.keep(i, 1, i);
            Due.same("depth(" + i + ")", y.depth(i), dueToo[i]);
        }
    }

    private static void toss() {
        TwoThirds x = Due.with("p7 1 3;p6 1 3;p5 1 3;p4 1 3;p3 1 3;p2 1 3;p1 1 3;p0 1 3;", 8);
        // A failure's number is that of the person; 200 and 16 of the learning one.
        int[] due = {0, 216, -15, -15, 104, 5, 6, 7};
        for (int i = 0; i < 8; i++) {
            x.keep(7 - i, 1, i);
            Due.same("toss of " + i, x.toss(7 - i), due[i]);
            x.steps(i, 0);
            x.keep(7 - i, 1, i);
            Due.same("no steps, toss of " + i, x.toss(7 - i), -15);
        }
        Due.same("toss(8)", x.toss(8), -1);
        Due.same("toss(-1)", x.toss(-1), -1);
        x.keep(0, 0, 0);
        Due.same("nothing", x.toss(0), -11);
        x.row(0, 0, 1);
        Due.same("a row", x.toss(0), -12);
    }
}
