/** Promises 26 to 28: image, restore, count. */
public final class ImageTest {
    public static void main(String[] args) {
        allComesBack();
        anImageOfNothing();
        theImageStays();
        aFullHouse();
        count();
        Due.end("ImageTest");
    }

    private static void allComesBack() {
        TwoThirds x = Due.with("b;g3/4;h60;p2 3 1;p1 0 0;p6 2 0;", 6);
        x.set(4, 99);
        x.round();
        x.round();
        int[] before = all(x);
        int z = x.set(4, 0);
        x.set(4, z);
        Due.same("image()", x.image(), 3);
        x.round();
        x.round();
        x.steps(0, 9);
        x.anew();
        Due.crowd(x, "n;g1/1;h9;p5 0 0;", 4);
        Due.fill(x, 2, Due.BYTES, 42);
        x.keep(3, 1, 3);
        Due.same("restore()", x.restore(), 3);
        int[] after = all(x);
        for (int i = 0; i < before.length; i++) {
            Due.same("answer " + i, after[i], before[i]);
        }
        Due.same("prize: told behind a round", x.set(3, 0), -3);
        Due.same("z", x.set(4, z), z);
        Due.sameText("shelves stay", Due.elementOrThrow(x, 2, 0), "42");
        Due.same("shelves stay", x.depth(3), 1);
        Due.same("person 3 is no more", x.of(3, 0), -1);
        x.anew();
        Due.same("prize", x.set(3, 1), 1);
    }

    private static int[] all(TwoThirds x) {
        int[] answers = new int[27];
        for (int person = 0; person < 3; person++) {
            for (int what = 0; what < 4; what++) {
                answers[person * 4 + what] = x.of(person, what);
            }
        }
        for (int what = 0; what < 6; what++) {
            answers[12 + what] = x.count(what);
        }
        for (int what = 0; what < 3; what++) {
            answers[18 + what] = x.last(what);
        }
        answers[21] = x.target(0);
        answers[22] = x.target(1);
        answers[23] = x.holds(0);
        answers[24] = x.holds(2);
        answers[25] = x.wins(0, 20);
        answers[26] = x.wins(1, 20);
        return answers;
    }

    private static void anImageOfNothing() {
        TwoThirds x = new TwoThirds();
        Due.same("no image", x.restore(), -3);
        Due.same("image()", x.image(), 0);
        Due.crowd(x, "p0 1 0;", 1);
        x.round();
        Due.same("restore()", x.restore(), 0);
        Due.same("people", x.count(0), 0);
        Due.same("rounds", x.count(1), 0);
        Due.same("all steps", x.count(5), 0);
        Due.same("round()", x.round(), -3);
        Due.same("of(0, 0)", x.of(0, 0), -1);
    }

    private static void theImageStays() {
        TwoThirds x = Due.with("p2 1 0;", 1);
        x.image();
        x.steps(0, 2);
        Due.same("restore()", x.restore(), 1);
        Due.same("steps", x.of(0, 1), 1);
        x.steps(0, 3);
        x.round();
        Due.same("restore() again", x.restore(), 1);
        Due.same("steps", x.of(0, 1), 1);
        Due.same("no card", x.of(0, 3), -4);
        x.steps(0, 4);
        x.image();
        x.steps(0, 5);
        x.wins(0, 3);
        x.restore();
        Due.same("the newer image", x.of(0, 1), 4);
        x.wins(0, 3);
        x.restore();
        Due.same("what is in mind is no image", x.count(1), 0);
    }

    private static void aFullHouse() {
        TwoThirds x = Due.with("p0 0 0;p5 0 0;p0 0 0;p5 0 0;p0 0 0;p5 0 0;p0 0 0;p5 0 0;p0 0 0;p5 0 0;p0 0 0;p2 1 0;", 12);
        x.round();
        Due.same("image()", x.image(), 12);
        x.anew();
        Due.same("restore()", x.restore(), 12);
        Due.same("card", x.of(11, 3), 33);
        Due.same("sum", x.last(0), 833);
        // 833 by 12, two thirds of it: 46 and a bit, so all who wrote 50.
        Due.same("how many win", x.last(1), 6);
        Due.same("wins", x.wins(10, 3), 3);
        Due.same("wins", x.wins(11, 3), 0);
    }

    private static void count() {
        TwoThirds x = Due.with("g5/6;h7;p0 4 0;p5 5 0;", 4);
        x.round();
        int[] due = {2, 1, 5, 6, 7, 9};
        for (int what = 0; what < 6; what++) {
            Due.same("count(" + what + ")", x.count(what), due[what]);
        }
        Due.same("count(6)", x.count(6), -1);
        Due.same("count(-1)", x.count(-1), -1);
    }
}
