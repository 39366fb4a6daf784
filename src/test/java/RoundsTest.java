/** Promises 6 to 11: holds, round, anew, last, target, wins. */
public final class RoundsTest {
    /** Draws as the document tells them, in long arithmetic. */
    private static final class Draws {
        private long z;

        Draws(long start) {
            z = start & 0xFFFFFFFFL;
        }

        int below(int n) {
            z = (z * 1103515245L + 12345L) & 0xFFFFFFFFL;
            return (int) ((z & 0x7FFFFFFFL) / 65536L % n);
        }
    }

    public static void main(String[] args) {
        holds();
        holdsWithOtherShares();
        holdsAfterARound();
        rounds();
        cardsByDraws();
        anew();
        last();
        nobodyWins();
        target();
        wins();
        winsOfDrawers();
        Due.end("RoundsTest");
    }

    private static void holds() {
        TwoThirds x = Due.with("p0 9 9;p2 0 20;p2 9 0;p3 0 0;p3 1 0;p3 2 0;p3 9 0;p4 3 3;p5 3 3;p6 1 0;p1 1 1;p7 1 1;", 12);
        int[] due = {50, 50, 0, 50, 33, 27, 16, 0, 100, 33, -3, -3};
        for (int i = 0; i < due.length; i++) {
            Due.same("holds(" + i + ")", x.holds(i), due[i]);
        }
        // Mixing, by hand: 50 33 27 24 22 20 19 18 17 16, each two thirds of the mean, cut, of those ahead of it.
        int[] mixing = {50, 33, 27, 24, 22, 20, 19, 18, 17, 16};
        for (int k = 0; k < mixing.length; k++) {
            x.steps(6, k);
            Due.same("mixing by " + k + " steps holds", x.holds(6), mixing[k]);
        }
        int[] stepping = {50, 33, 22, 14, 9, 6, 4, 2, 1, 0};
        for (int k = 0; k < stepping.length; k++) {
            x.steps(2, k);
            Due.same("stepping by " + k + " steps holds", x.holds(2), stepping[k]);
            x.steps(9, k);
            Due.same("learning without a round by " + k + " steps holds", x.holds(9), stepping[k]);
        }
        Due.same("holds(-1)", x.holds(-1), -1);
        Due.same("holds(12)", x.holds(12), -1);
        Due.same("z is as it was", x.set(4, 1), 1);
    }

    private static void holdsWithOtherShares() {
        TwoThirds x = Due.with("h7;p0 0 0;p2 1 0;p4 1 0;p3 2 0;g20/1;", 6);
        Due.same("high by 2, cut", x.holds(0), 3);
        Due.same("held to high", x.holds(1), 7);
        Due.same("ended, up more", x.holds(2), 7);
        Due.same("mixing, held each time", x.holds(3), 7);
        x.set(0, 3);
        x.set(1, 3);
        Due.same("ended, up as down", x.holds(2), 0);
        Due.same("stepping, up as down", x.holds(1), 3);
        x.set(0, 4);
        Due.same("ended, up one more", x.holds(2), 7);
        x.set(0, 0);
        Due.same("stepping, up 0", x.holds(1), 0);
        x.set(2, 1);
        Due.same("high 1", x.holds(0), 0);
        // 10/9 of 500: 555 616 (not 617) 684 760; mixing takes the mean cut ahead of its share.
        TwoThirds y = Due.with("h1000;g10/9;p2 4 0;p3 4 0;", 4);
        Due.same("stepping", y.holds(0), 760);
        Due.same("mixing: 500 555 585 606 623", y.holds(1), 623);
    }

    private static void holdsAfterARound() {
        TwoThirds x = Due.with("p0 0 0;p5 0 0;p6 0 0;p6 3 0;p2 2 0;", 5);
        Due.same("round", x.round(), 1);
        // 50 100 50 14 22: 236 by 5 is 47, cut; then 31 20 13.
        Due.same("last(0)", x.last(0), 236);
        Due.same("learning by 0 steps as by 1", x.holds(2), 31);
        Due.same("learning by 3", x.holds(3), 13);
        x.steps(3, 1);
        Due.same("learning by 1", x.holds(3), 31);
        x.steps(3, 2);
        Due.same("learning by 2", x.holds(3), 20);
        Due.same("stepping learns nothing", x.holds(4), 22);
        Due.same("round", x.round(), 2);
        // 50 100 31 20 22: 223 by 5 is 44, then 29 19. Both learn by the round ahead, though the first writes ahead of the other.
        Due.same("card", x.of(2, 3), 31);
        Due.same("card", x.of(3, 3), 20);
        Due.same("last(0)", x.last(0), 223);
        Due.same("learning", x.holds(2), 29);
        Due.same("learning", x.holds(3), 19);
        x.anew();
        Due.same("as stepping again", x.holds(2), 50);
        TwoThirds y = Due.with("g3/1;p5 0 0;p6 9 0;", 3);
        y.round();
        Due.same("held to high", y.holds(1), 100);
    }

    private static void rounds() {
        TwoThirds x = Due.with("p0 0 0;", 1);
        for (int i = 1; i <= 99; i++) {
            Due.same("round()", x.round(), i);
        }
        Due.same("round 100", x.round(), -2);
        Due.same("rounds", x.count(1), 99);
        Due.same("wins beyond", x.wins(0, 20), 20);
        x.anew();
        Due.same("round()", x.round(), 1);
        Due.same("nobody", new TwoThirds().round(), -3);
    }

    private static void cardsByDraws() {
        for (int start : new int[] {1, 77, -5, Integer.MIN_VALUE, Integer.MAX_VALUE}) {
            TwoThirds x = Due.with("h97;p1 0 0;p0 0 7;p7 1 3;p5 0 20;p1 0 20;p4 0 1;p7 0 0;p2 0 0;", 9);
            x.set(4, start);
            Draws draws = new Draws(start);
            for (int round = 1; round <= 5; round++) {
                int[] due = new int[8];
                due[0] = draws.below(98);
                due[1] = held(48 + draws.below(15) - 7);
                due[2] = held(draws.below(98) / 2 + 48 + draws.below(7) - 3);
                due[3] = held(97 + draws.below(41) - 20);
                due[4] = held(draws.below(98) + draws.below(41) - 20);
                due[5] = held(draws.below(3) - 1);
                due[6] = draws.below(98) / 2 + 48;
                due[7] = 48;
                Due.same("round()", x.round(), round);
                int sum = 0;
                for (int i = 0; i < 8; i++) {
                    Due.same("card of " + i, x.of(i, 3), due[i]);
                    sum += due[i];
                }
                Due.same("sum", x.last(0), sum);
            }
        }
    }

    private static int held(int card) {
        return card < 0 ? 0 : card > 97 ? 97 : card;
    }

    private static void anew() {
        TwoThirds x = new TwoThirds();
        Due.same("anew without people", x.anew(), 0);
        x = Due.with("p1 0 0;p0 4 1;", 2);
        x.round();
        x.round();
        int z = x.set(4, 0);
        x.set(4, z);
        Due.same("anew()", x.anew(), 2);
        Due.same("z stays", x.set(4, z), z);
        Due.same("no round", x.count(1), 0);
        Due.same("people stay", x.count(0), 2);
        Due.same("steps stay", x.count(5), 4);
        Due.same("last", x.last(0), -3);
        Due.same("target", x.target(0), -3);
        Due.same("card", x.of(0, 3), -4);
        Due.same("round", x.round(), 1);
    }

    private static void last() {
        TwoThirds x = Due.with("p5 0 0;p2 1 0;p0 0 0;p2 1 0;", 4);
        Due.same("no round", x.last(0), -3);
        Due.same("-1 ahead of -3", x.last(3), -1);
        Due.same("-1 ahead of -3", x.last(-1), -1);
        x.round();
        // 100 33 50 33: 216 by 4 is 54, two thirds 36.
        Due.same("sum", x.last(0), 216);
        Due.same("how many win", x.last(1), 2);
        Due.same("the first", x.last(2), 1);
        Due.same("last(3)", x.last(3), -1);
        // 40 and 10: mean 25, target 25 by 1: both are as far.
        TwoThirds y = Due.with("h40;g1/1;p5 0 0;p2 0 0;p4 0 0;", 5);
        y.round();
        Due.same("sum", y.last(0), 60);
        Due.same("one wins", y.last(1), 1);
        Due.same("the first", y.last(2), 1);
        TwoThirds both = Due.with("h40;g1/1;p5 0 0;p4 0 0;", 4);
        both.round();
        Due.same("above and below are alike", both.last(1), 2);
        Due.same("the first", both.last(2), 0);
        TwoThirds below = Due.with("b;h40;g1/1;p5 0 0;p4 0 0;", 5);
        below.round();
        Due.same("below wins alone", below.last(1), 1);
        Due.same("the first", below.last(2), 1);
        TwoThirds exact = Due.with("b;g1/1;p0 0 0;p0 0 0;", 4);
        exact.round();
        Due.same("no more than the target", exact.last(1), 2);
    }

    private static void nobodyWins() {
        TwoThirds x = Due.with("b;p5 0 0;p5 1 0;", 3);
        x.round();
        Due.same("how many win", x.last(1), 0);
        Due.same("nobody", x.last(2), -4);
        Due.same("wins", x.wins(0, 20), 0);
    }

    private static void target() {
        TwoThirds x = Due.with("p0 0 0;p5 0 0;p5 0 0;p5 0 0;", 4);
        Due.same("no round", x.target(0), -3);
        Due.same("-1 ahead of -3", x.target(2), -1);
        Due.same("-1 ahead of -3", x.target(-1), -1);
        x.round();
        // Two thirds of 350 by 4: 700 by 12.
        Due.same("above", x.target(0), 175);
        Due.same("below", x.target(1), 3);
        Due.same("target(2)", x.target(2), -1);
        TwoThirds y = Due.with("g0/20;p5 0 0;p5 0 0;", 3);
        y.round();
        Due.same("nought above", y.target(0), 0);
        Due.same("one below", y.target(1), 1);
    }

    private static void wins() {
        TwoThirds x = Due.with("p0 0 0;p5 0 0;p2 2 0;p6 1 0;", 4);
        // 50 100 22 33: two thirds of 205 by 4 are 34 and a bit.
        Due.same("n 0", x.wins(0, 0), -1);
        Due.same("n 21", x.wins(0, 21), -1);
        Due.same("n -1", x.wins(0, -1), -1);
        Due.same("person 4", x.wins(4, 1), -1);
        Due.same("person -1", x.wins(-1, 1), -1);
        Due.same("wins(3, 1)", x.wins(3, 1), 1);
        Due.same("wins(2, 1)", x.wins(2, 1), 0);
        Due.same("in mind alone", x.count(1), 0);
        Due.same("in mind alone", x.of(0, 3), -4);
        Due.same("in mind alone", x.last(0), -3);
    }

    /** What wins tells ahead is what then comes. */
    private static void winsOfDrawers() {
        for (int prize = 0; prize < 2; prize++) {
            TwoThirds x = Due.with("p1 0 0;p1 0 0;p7 0 3;p6 2 9;p3 3 4;", 5);
            x.set(3, prize);
            x.round();
            int[] told = new int[5];
            for (int i = 0; i < 5; i++) {
                told[i] = x.wins(i, 20);
            }
            int z = x.set(4, 0);
            x.set(4, z);
            Due.same("told again", x.wins(0, 20), told[0]);
            int[] won = new int[5];
            for (int round = 0; round < 20; round++) {
                x.round();
                int[] cards = new int[5];
                for (int i = 0; i < 5; i++) {
                    cards[i] = x.of(i, 3);
                }
                Due.fill(x, 0, Due.BYTES, cards);
                Due.same("last and winners agree", x.last(1), x.winners(0, 0));
                for (int i = 0; i < 5; i++) {
                    long above = 2L * x.last(0);
                    long line = 15;
                    boolean best = true;
                    long mine = Math.abs(cards[i] * line - above);
                    if (prize == 1 && cards[i] * line > above) {
                        best = false;
                    }
                    for (int j = 0; j < 5; j++) {
                        boolean canWin = prize == 0 || cards[j] * line <= above;
                        if (canWin && Math.abs(cards[j] * line - above) < mine) {
                            best = false;
                        }
                    }
                    if (best) {
                        won[i]++;
                    }
                }
            }
            for (int i = 0; i < 5; i++) {
                Due.same("wins of " + i, told[i], won[i]);
            }
        }
    }
}
