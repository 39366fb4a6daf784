/** Promises 24 and 25: ends, parts. */
public final class GamesTest {
    public static void main(String[] args) {
        ends();
        parts();
        partsAfterARound();
        Due.end("GamesTest");
    }

    private static void ends() {
        TwoThirds x = new TwoThirds();
        Due.same("the number", x.ends(0), 0);
        Due.same("after 9", x.ends(1), 9);
        Due.same("ends(2)", x.ends(2), -1);
        Due.same("ends(-1)", x.ends(-1), -1);
        x.set(0, 3);
        Due.same("stays where it is", x.ends(0), 50);
        Due.same("after 0", x.ends(1), 0);
        x.set(0, 6);
        Due.same("high", x.ends(0), 100);
        Due.same("after 1", x.ends(1), 1);
        x.set(0, 0);
        Due.same("nought", x.ends(0), 0);
        Due.same("after 1", x.ends(1), 1);
        // 20 by 19 of 18 is 18, cut.
        x.set(0, 20);
        x.set(1, 19);
        x.set(2, 37);
        Due.same("cut", x.ends(0), 18);
        Due.same("after 0", x.ends(1), 0);
        x.set(2, 1);
        Due.same("high 1", x.ends(0), 0);
        x.set(0, 19);
        x.set(1, 20);
        x.set(2, 984);
        Due.same("long", x.ends(0), 0);
        Due.same("after 75", x.ends(1), 75);
    }

    private static void parts() {
        TwoThirds x = Due.with("p0 0 0;p2 1 0;p5 0 0;p4 0 0;p1 0 0;p7 0 0;p2 0 5;", 7);
        // 50 and 50 UP by 3: 50 apart at 0 and, held to high, at 6 and beyond.
        Due.same("the least up", x.parts(0, 1, 0), 0);
        Due.same("how unlike", x.parts(0, 1, 1), 50);
        Due.same("the other way", x.parts(1, 0, 1), 50);
        Due.same("up", x.parts(1, 2, 0), 0);
        Due.same("how unlike", x.parts(1, 2, 1), 100);
        // Ended: 0 up to 3, 100 from 4 on; 50 UP by 3 is 66 at 4, 50 at 3.
        Due.same("up", x.parts(1, 3, 0), 3);
        Due.same("how unlike", x.parts(1, 3, 1), 50);
        Due.same("alike in all games", x.parts(0, 6, 0), 0);
        Due.same("alike in all games", x.parts(0, 6, 1), 0);
        Due.same("the game stays", x.count(2), 2);
        Due.same("one twice", x.parts(0, 0, 0), -1);
        Due.same("one twice ahead of -3", x.parts(4, 4, 0), -1);
        Due.same("what 2", x.parts(0, 1, 2), -1);
        Due.same("what -1", x.parts(4, 1, -1), -1);
        Due.same("person 7", x.parts(0, 7, 0), -1);
        Due.same("person -1", x.parts(-1, 0, 0), -1);
        Due.same("noughth", x.parts(4, 0, 0), -3);
        Due.same("noughth", x.parts(0, 4, 0), -3);
        Due.same("wrong", x.parts(5, 0, 0), -3);
        Due.same("wrong", x.parts(0, 5, 1), -3);
        Due.same("-1 ahead of -3", x.parts(4, 7, 0), -1);
        Due.same("z stays", x.set(4, 1), 1);
        x.set(1, 20);
        // Down 20: 50 UP by 20 is least at 0 (50 apart) and 50 at UP 20.
        Due.same("down as it is", x.parts(0, 1, 0), 0);
        // Ended 0 throughout; stepping 50 at UP 20.
        Due.same("down as it is", x.parts(1, 3, 0), 20);
        Due.same("down as it is", x.parts(1, 3, 1), 50);
    }

    private static void partsAfterARound() {
        TwoThirds x = Due.with("p0 0 0;p6 1 0;p5 0 0;p5 0 0;", 4);
        Due.same("as stepping", x.parts(0, 1, 0), 0);
        x.round();
        // 50 33 100 100: 283 by 4 is 70; UP by 3 of it: 0 at 0 (50 away), 93 at 4, 100 from 5 on (50 away).
        Due.same("by the last round", x.parts(0, 1, 0), 0);
        Due.same("by the last round", x.parts(0, 1, 1), 50);
        Due.same("the game stays", x.holds(1), 46);
        TwoThirds y = Due.with("h99;p0 0 0;p6 1 0;p5 0 0;p5 0 0;", 5);
        y.round();
        // 49 32 99 99: 279 by 4 is 69; 49 apart at 0, 50 from 5 on: 115 held to 99.
        Due.same("up", y.parts(0, 1, 0), 5);
        Due.same("how unlike", y.parts(1, 0, 1), 50);
    }
}
