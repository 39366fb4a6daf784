/** Promises 2 to 5: crowd, of, set, steps. */
public final class CrowdsTest {
    public static void main(String[] args) {
        crowdComes();
        faultsOfTheFirstKind();
        faultsOfTheSecondKind();
        firstKindGoesAhead();
        crowdRefusals();
        crowdAfterARound();
        of();
        set();
        steps();
        Due.end("CrowdsTest");
    }

    private static void crowdComes() {
        TwoThirds x = Due.with("g20/20;h1000;b;p7 9 20;p3 0 0;g0/1;h1;n;", 8);
        Due.same("people", x.count(0), 2);
        Due.same("up", x.count(2), 0);
        Due.same("down", x.count(3), 1);
        Due.same("high", x.count(4), 1);
        Due.same("prize is nearest", x.set(3, 0), 0);
        Due.same("kind", x.of(0, 0), 7);
        Due.same("steps", x.of(0, 1), 9);
        Due.same("slip", x.of(0, 2), 20);
        Due.same("kind", x.of(1, 0), 3);
        Due.crowd(x, "b;p1 1 1;", 2);
        Due.same("one more", x.count(0), 3);
        Due.same("prize is below", x.set(3, 0), 1);
        Due.write(x, 0, "n;");
        Due.same("crowd", x.crowd(0), 1);
        Due.same("crowd again, as the row stays", x.crowd(0), 1);
        Due.sameText("the row stays", Due.elementOrThrow(x, 0, 0), "110");
    }

    private static void faultsOfTheFirstKind() {
        TwoThirds x = new TwoThirds();
        Due.crowd(x, "", -1000);
        Due.crowd(x, "x", -1000);
        Due.crowd(x, ";", -1000);
        Due.crowd(x, "P0 0 0;", -1000);
        Due.crowd(x, "p", -1001);
        Due.crowd(x, "p 0 0;", -1001);
        Due.crowd(x, "p0", -1002);
        Due.crowd(x, "p00 0;", -1002);
        Due.crowd(x, "p0  0;", -1003);
        Due.crowd(x, "p0 00;", -1004);
        Due.crowd(x, "p0 0;", -1004);
        Due.crowd(x, "p0 0 ", -1005);
        Due.crowd(x, "p0 0 ;", -1005);
        Due.crowd(x, "p0 0 -1;", -1005);
        Due.crowd(x, "p0 0 01;", -1006);
        Due.crowd(x, "p0 0 0", -1006);
        Due.crowd(x, "p0 0 12345;", -1009);
        Due.crowd(x, "g/3;", -1001);
        Due.crowd(x, "g1;", -1002);
        Due.crowd(x, "g1 /3;", -1002);
        Due.crowd(x, "g12345/3;", -1005);
        Due.crowd(x, "g1/;", -1003);
        Due.crowd(x, "g1/01;", -1004);
        Due.crowd(x, "g1/2", -1004);
        Due.crowd(x, "h;", -1001);
        Due.crowd(x, "h00;", -1002);
        Due.crowd(x, "h1000", -1005);
        Due.crowd(x, "b", -1001);
        Due.crowd(x, "b1;", -1001);
        Due.crowd(x, "n n;", -1001);
        Due.crowd(x, "b;n;x", -1004);
        Due.crowd(x, "b;;", -1002);
        Due.crowd(x, "b; n;", -1002);
        Due.crowd(x, "b;p", -1003);
        Due.crowd(x, "p8 9 9999;z", -1010);
        Due.fill(x, 0, Due.BYTES, 'b', ';', 0);
        Due.same("crowd with a byte 0", x.crowd(0), -1002);
        Due.fill(x, 0, Due.BYTES, 'b', ';', 'n' - 256, ';');
        Due.same("bytes keep their lowest bits", x.crowd(0), 2);
        Due.same("no people came", x.count(0), 0);
    }

    private static void faultsOfTheSecondKind() {
        TwoThirds x = new TwoThirds();
        Due.crowd(x, "p8 0 0;", -2000);
        Due.crowd(x, "b;p9 0 0;", -2002);
        Due.same("nothing of it came", x.set(3, 0), 0);
        Due.crowd(x, "p0 0 0;p0 0 21;", -2007);
        Due.same("nobody came", x.count(0), 0);
        Due.crowd(x, "p0 0 20;p0 0 9999;p8 0 0;", -2008);
        Due.crowd(x, "g21/1;", -2000);
        Due.crowd(x, "g1/0;", -2000);
        Due.crowd(x, "g1/21;", -2000);
        Due.crowd(x, "g20/20;g0/1;h1;h0;", -2015);
        Due.same("up stays", x.count(2), 2);
        Due.same("down stays", x.count(3), 3);
        Due.crowd(x, "h1000;h1001;", -2006);
        Due.same("high stays", x.count(4), 100);
        Due.crowd(x, "p0 1 2;p1 1 2;p2 1 2;p3 1 2;p4 1 2;p5 1 2;p6 1 2;p7 1 2;p0 1 2;p1 1 2;", 10);
        Due.crowd(x, "p0 1 2;n;p1 1 2;h7;p2 1 2;b;", -2019);
        Due.same("ten people", x.count(0), 10);
        Due.same("high stays", x.count(4), 100);
        Due.crowd(x, "p0 1 2;p5 6 7;", 2);
        Due.same("twelve people", x.count(0), 12);
        Due.same("the last one", x.of(11, 0), 5);
        Due.crowd(x, "p0 0 0;", -2000);
        Due.crowd(x, "h7;p0 0 0;", -2003);
        Due.crowd(x, "h7;", 1);
    }

    private static void firstKindGoesAhead() {
        TwoThirds x = new TwoThirds();
        Due.crowd(x, "p9 0 0;q", -1007);
        Due.crowd(x, "h0;h", -1004);
        Due.crowd(x, "p0 0 0;", 1);
        x.round();
        Due.crowd(x, "b;c;", -1002);
    }

    private static void crowdRefusals() {
        TwoThirds x = Due.with("p0 0 0;", 1);
        Due.same("crowd(-1)", x.crowd(-1), -1);
        Due.same("crowd(8)", x.crowd(8), -1);
        Due.same("crowd(0)", x.crowd(0), -11);
        x.keep(0, 1, 0);
        Due.same("crowd of a person", x.crowd(0), -12);
        Due.fill(x, 0, Due.SHORTS, 'b', ';');
        Due.same("crowd of shorts", x.crowd(0), -12);
        Due.fill(x, 0, Due.INTS, 'b', ';');
        Due.same("crowd of ints", x.crowd(0), -12);
    }

    private static void crowdAfterARound() {
        TwoThirds x = Due.with("p0 0 0;", 1);
        Due.same("round", x.round(), 1);
        for (String text : new String[] {"p0 0 0;", "g2/3;", "h100;", "b;", "n;", "n;p0 0 0;"}) {
            Due.crowd(x, text, -2000);
        }
        Due.same("anew", x.anew(), 1);
        Due.crowd(x, "p0 0 0;g2/3;h100;b;n;", 5);
    }

    private static void of() {
        TwoThirds x = Due.with("p1 2 3;p6 0 20;", 2);
        Due.same("kind", x.of(0, 0), 1);
        Due.same("steps", x.of(0, 1), 2);
        Due.same("slip", x.of(0, 2), 3);
        Due.same("no card yet", x.of(0, 3), -4);
        Due.same("kind", x.of(1, 0), 6);
        Due.same("steps", x.of(1, 1), 0);
        Due.same("slip", x.of(1, 2), 20);
        Due.same("what -1", x.of(0, -1), -1);
        Due.same("what 4", x.of(0, 4), -1);
        Due.same("person -1", x.of(-1, 0), -1);
        Due.same("person 2", x.of(2, 0), -1);
        Due.same("person 2 has no card", x.of(2, 3), -1);
        TwoThirds y = Due.with("p0 0 0;p5 0 0;", 2);
        y.round();
        Due.same("card", y.of(0, 3), 50);
        Due.same("card", y.of(1, 3), 100);
        y.anew();
        Due.same("no card", y.of(1, 3), -4);
    }

    private static void set() {
        TwoThirds x = Due.with("p0 0 0;", 1);
        int[][] ranges = {{0, 0, 20, 2}, {1, 1, 20, 3}, {2, 1, 1000, 100}, {3, 0, 1, 0}};
        for (int[] range : ranges) {
            Due.same("too little", x.set(range[0], range[1] - 1), -1);
            Due.same("too much", x.set(range[0], range[2] + 1), -1);
            Due.same("least", x.set(range[0], range[1]), range[3]);
            Due.same("most", x.set(range[0], range[2]), range[1]);
            Due.same("as before", x.set(range[0], range[3]), range[2]);
        }
        Due.same("z", x.set(4, Integer.MIN_VALUE), 1);
        Due.same("z", x.set(4, Integer.MAX_VALUE), Integer.MIN_VALUE);
        Due.same("z", x.set(4, -3), Integer.MAX_VALUE);
        Due.same("z as it is", x.set(4, 5), -3);
        Due.same("what -1", x.set(-1, 1), -1);
        Due.same("what 5", x.set(5, 1), -1);
        x.round();
        for (int[] range : ranges) {
            Due.same("a round was", x.set(range[0], range[3]), -3);
            Due.same("-1 is told ahead of -3", x.set(range[0], range[2] + 1), -1);
        }
        Due.same("what 5 after a round", x.set(5, 1), -1);
        Due.same("z after a round", x.set(4, 6), 5);
        x.anew();
        Due.same("after anew", x.set(0, 4), 2);
        Due.same("up", x.count(2), 4);
        Due.same("down", x.set(1, 5), 3);
        Due.same("down", x.count(3), 5);
        Due.same("high", x.set(2, 6), 100);
        Due.same("high", x.count(4), 6);
    }

    private static void steps() {
        TwoThirds x = Due.with("p2 3 0;p0 9 0;", 2);
        Due.same("steps(0, 9)", x.steps(0, 9), 3);
        Due.same("steps(0, 0)", x.steps(0, 0), 9);
        Due.same("steps(0, 1)", x.steps(0, 1), 0);
        Due.same("steps(0, 10)", x.steps(0, 10), -1);
        Due.same("steps(0, -1)", x.steps(0, -1), -1);
        Due.same("steps(2, 1)", x.steps(2, 1), -1);
        Due.same("steps(-1, 1)", x.steps(-1, 1), -1);
        Due.same("of(0, 1)", x.of(0, 1), 1);
        Due.same("the other's stay", x.of(1, 1), 9);
        Due.same("all steps", x.count(5), 10);
        x.round();
        Due.same("after a round", x.steps(0, 2), 1);
        Due.same("it holds", x.holds(0), 22);
        x.anew();
        Due.same("steps stay", x.of(0, 1), 2);
    }
}
