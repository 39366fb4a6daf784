/** The boundaries that "3 Of a ROW of cards" names: told cards, steps, words, other games, jokers, ends, parts, judged, the image. */
public final class BoundaryCardsTest {
    private static final long LESS = -4000000000000000000L;

    public static void main(String[] args) {
        cards();
        meanAndTarget();
        winners();
        best();
        stepsOfACard();
        shares();
        words();
        ahead();
        worth();
        jokers();
        ends();
        differ();
        parts();
        judged();
        theImage();
        Due.end("BoundaryCardsTest");
    }

    /** A game with its own high and share. */
    private static TwoThirds game(int high, int up, int down) {
        TwoThirds x = new TwoThirds();
        x.set(2, high);
        x.set(0, up);
        x.set(1, down);
        return x;
    }

    private static int[] many(int size, int card) {
        int[] cards = new int[size];
        java.util.Arrays.fill(cards, card);
        return cards;
    }

    // ---- what a row of cards is

    /** Each call that reads cards tells them, or answers -13. */
    private static void told(TwoThirds x, int d, boolean areCards) {
        long[] answers = {
            x.mean(d, 0, 0), x.mean(d, 1, 1), x.winners(d, 0), x.best(d), x.shares(d, 0), x.ahead(d, 0, 1),
            x.jokers(d, 0), x.differ(d, d), x.worth(d, 0) < LESS / 2 ? x.worth(d, 0) - LESS : 0,
        };
        for (int i = 0; i < answers.length; i++) {
            Due.same("call " + i + (areCards ? " tells" : " refuses"), areCards ? Math.min(answers[i], 0) : answers[i],
                areCards ? 0 : -13);
        }
    }

    private static void cards() {
        Due.sentence("a ROW of cards (0 .. HIGH, 1 at least; -13 else)");
        for (int high : new int[] {1, 7, 100, 127}) {
            for (int sort = 0; sort < 3; sort++) {
                TwoThirds x = game(high, 2, 3);
                Due.fill(x, 0, sort);
                told(x, 0, false);
                Due.fill(x, 0, sort, 0);
                told(x, 0, true);
                Due.fill(x, 0, sort, high);
                told(x, 0, true);
                Due.fill(x, 0, sort, high + 1);
                told(x, 0, false);
                Due.fill(x, 0, sort, -1);
                told(x, 0, false);
                Due.fill(x, 0, sort, 0, high, 1, -1);
                told(x, 0, false);
                Due.fill(x, 0, sort, high + 1, 0, 1);
                told(x, 0, false);
                Due.fill(x, 0, sort, 0, 1, high, 0);
                told(x, 0, true);
            }
        }
        TwoThirds x = game(1000, 2, 3);
        Due.fill(x, 0, Due.SHORTS, 1000, 0);
        told(x, 0, true);
        Due.fill(x, 0, Due.INTS, 0, 1001);
        told(x, 0, false);
        Due.fill(x, 0, Due.INTS, 0, 0x10000);
        told(x, 0, false);
        Due.fill(x, 0, Due.INTS, Integer.MIN_VALUE, Integer.MAX_VALUE);
        told(x, 0, false);
        Due.fill(x, 1, Due.BYTES, many(100, 127));
        told(x, 1, true);
        Due.same("high falls", x.set(2, 126), 1000);
        told(x, 1, false);
        Due.same("high is enough", x.set(2, 127), 126);
        told(x, 1, true);
        x.put(1, 99, 128);
        told(x, 1, false);
    }

    private static void fraction(String name, int above, int below, int dueAbove, int dueBelow) {
        Due.same(name + " above", above, dueAbove);
        Due.same(name + " below", below, dueBelow);
    }

    private static void meanAndTarget() {
        Due.sentence("MEAN of cards: their sum by how many; in least terms");
        TwoThirds x = new TwoThirds();
        int[][] all = {
            // mean and target, then cards
            {0, 1, 0, 1, 0}, {1, 1, 2, 3, 1}, {100, 1, 200, 3, 100}, {1, 2, 1, 3, 0, 1}, {50, 1, 100, 3, 0, 100},
            {1, 3, 2, 9, 0, 1, 0}, {4, 3, 8, 9, 1, 1, 2}, {3, 2, 1, 1, 1, 1, 2, 2}, {6, 1, 4, 1, 5, 6, 7},
            {0, 1, 0, 1, 0, 0, 0, 0, 0, 0},
        };
        for (int[] one : all) {
            Due.fill(x, 0, Due.BYTES, java.util.Arrays.copyOfRange(one, 4, one.length));
            fraction("mean", x.mean(0, 0, 0), x.mean(0, 0, 1), one[0], one[1]);
            fraction("target", x.mean(0, 1, 0), x.mean(0, 1, 1), one[2], one[3]);
        }
        Due.sentence("TARGET: SHARE times MEAN, a fraction, in least terms");
        TwoThirds greatest = game(1000, 20, 1);
        Due.fill(greatest, 0, Due.SHORTS, many(100, 1000));
        fraction("greatest", greatest.mean(0, 1, 0), greatest.mean(0, 1, 1), 20000, 1);
        greatest.put(0, 0, 999);
        fraction("mean", greatest.mean(0, 0, 0), greatest.mean(0, 0, 1), 99999, 100);
        fraction("target", greatest.mean(0, 1, 0), greatest.mean(0, 1, 1), 99999, 5);
        TwoThirds least = game(1000, 1, 20);
        int[] one = many(100, 0);
        one[99] = 1;
        Due.fill(least, 0, Due.BYTES, one);
        fraction("target", least.mean(0, 1, 0), least.mean(0, 1, 1), 1, 2000);
        least.set(0, 0);
        fraction("share 0", least.mean(0, 1, 0), least.mean(0, 1, 1), 0, 1);
        least.set(0, 20);
        fraction("20 by 20", least.mean(0, 1, 0), least.mean(0, 1, 1), 1, 100);
        Due.sentence("target: TARGET of the last ROUND in least terms");
        TwoThirds round = Due.with("g20/20;p0 0 0;p5 0 0;", 3);
        round.round();
        fraction("target", round.target(0), round.target(1), 75, 1);
        TwoThirds none = Due.with("g1/20;p4 0 0;p4 0 0;p4 0 0;", 4);
        none.round();
        fraction("nought", none.target(0), none.target(1), 0, 1);
    }

    private static void winners() {
        Due.sentence("WINNERS: how many of them win; the first");
        TwoThirds x = game(100, 1, 1);
        Due.fill(x, 0, Due.BYTES, many(100, 7));
        Due.same("all of 100", x.winners(0, 0), 100);
        Due.same("the first of 100", x.winners(0, 1), 0);
        x.put(0, 0, 8);
        Due.same("99 of 100", x.winners(0, 0), 99);
        Due.same("the first of 99", x.winners(0, 1), 1);
        int[] cards = many(100, 0);
        cards[99] = 100;
        Due.fill(x, 1, Due.BYTES, cards);
        x.set(0, 20);
        // 20 times 1: 0 is 20 away, 100 is 80.
        Due.same("all but the last", x.winners(1, 0), 99);
        x.set(2, 100);
        cards[98] = 100;
        cards[97] = 100;
        Due.fill(x, 1, Due.BYTES, cards);
        // 20 times 3: 0 is 60 away, 100 is 40.
        Due.same("the last three", x.winners(1, 0), 3);
        Due.same("the first of them", x.winners(1, 1), 97);
        x.set(3, 1);
        Due.same("below: all the others", x.winners(1, 0), 97);
        Due.same("below: the first", x.winners(1, 1), 0);
        Due.sentence("last: the first who wins (-4: nobody)");
        TwoThirds round = Due.with("b;p5 0 0;", 2);
        round.round();
        Due.same("nobody", round.last(1), 0);
        Due.same("nobody", round.last(2), -4);
        TwoThirds twelve = Due.with("p5 0 0;p5 0 0;p5 0 0;p5 0 0;p5 0 0;p5 0 0;p5 0 0;p5 0 0;p5 0 0;p5 0 0;p5 0 0;p0 0 0;", 12);
        twelve.round();
        Due.same("the last of twelve", twelve.last(2), 11);
        Due.same("alone", twelve.last(1), 1);
        Due.same("wins", twelve.wins(11, 20), 20);
    }

    private static void best() {
        Due.sentence("BEST: of several the least");
        TwoThirds x = game(100, 1, 1);
        Due.fill(x, 0, Due.BYTES, 40);
        Due.same("upon the mean", x.best(0), 40);
        // (5 and c) by 3 of 2 by 2: 2 and 3 are a third away each.
        x.set(0, 2);
        x.set(1, 3);
        Due.fill(x, 0, Due.BYTES, 5);
        Due.same("2 and 3 are as far", x.best(0), 2);
        // Share 2 of (10 and c) by 2 is 10 and c: all are 10 away.
        x.set(0, 2);
        x.set(1, 1);
        Due.fill(x, 0, Due.BYTES, 10);
        Due.same("all are as far", x.best(0), 0);
        x.set(0, 0);
        Due.same("share 0", x.best(0), 0);
        x.set(0, 20);
        x.set(1, 19);
        Due.fill(x, 0, Due.BYTES, 100, 100, 100);
        Due.same("beyond high", x.best(0), 100);
        Due.fill(x, 0, Due.BYTES, 0, 0, 0);
        Due.same("nought", x.best(0), 0);
        Due.sentence("BEST by BELOW: the greatest that is no more than that TARGET");
        x.set(3, 1);
        Due.same("nought upon it", x.best(0), 0);
        x.set(0, 1);
        x.set(1, 1);
        Due.fill(x, 0, Due.BYTES, 40, 40);
        Due.same("upon it", x.best(0), 40);
        Due.fill(x, 0, Due.BYTES, 40, 41);
        Due.same("a half less", x.best(0), 40);
        x.set(0, 2);
        Due.fill(x, 0, Due.BYTES, 10);
        Due.same("all are no more", x.best(0), 100);
        x.set(0, 0);
        Due.same("share 0", x.best(0), 0);
        for (int high : new int[] {1, 1000}) {
            TwoThirds y = game(high, 20, 1);
            Due.fill(y, 0, Due.SHORTS, high);
            y.set(3, 1);
            Due.same("high " + high, y.best(0), high);
            y.set(3, 0);
            Due.same("nearest, high " + high, y.best(0), 0);
            y.set(0, 1);
            Due.same("upon it, high " + high, y.best(0), high);
        }
    }

    private static void stepsOfACard() {
        Due.sentence("STEPS of a card: the k whose LEVEL is least far; of several the least k");
        TwoThirds x = new TwoThirds();
        // Levels: 50 33 22 14 9 6 4 2 1 0; as far from two: 18, 5, 3.
        int[][] all = {
            {0, 9}, {1, 8}, {2, 7}, {3, 6}, {4, 6}, {5, 5}, {6, 5}, {7, 5}, {8, 4}, {9, 4}, {11, 4}, {12, 3}, {14, 3},
            {17, 3}, {18, 2}, {19, 2}, {22, 2}, {27, 2}, {28, 1}, {33, 1}, {41, 1}, {42, 0}, {50, 0}, {51, 0}, {100, 0},
        };
        for (int[] one : all) {
            Due.same("stepsOf(" + one[0] + ")", x.stepsOf(one[0]), one[1]);
        }
        Due.same("stepsOf(101)", x.stepsOf(101), -1);
        Due.same("stepsOf(-1)", x.stepsOf(-1), -1);
        TwoThirds one = game(1, 20, 1);
        Due.same("all levels 0, card 0", one.stepsOf(0), 0);
        Due.same("all levels 0, card 1", one.stepsOf(1), 0);
        Due.same("stepsOf(2)", one.stepsOf(2), -1);
        TwoThirds wide = game(1000, 20, 19);
        // Levels: 500 526 553 582 612 644 677 712 749 788.
        Due.same("the last level", wide.stepsOf(1000), 9);
        Due.same("nearer to 788", wide.stepsOf(769), 9);
        Due.same("nearer to 749", wide.stepsOf(768), 8);
        Due.same("as far from 500 as from 526", wide.stepsOf(513), 0);
        Due.same("514", wide.stepsOf(514), 1);
        Due.same("stepsOf(1001)", wide.stepsOf(1001), -1);
        Due.same("held levels are alike: the least", game(100, 20, 1).stepsOf(100), 1);
    }

    private static void shares() {
        Due.sentence("SHARES of a ROW: how many cards have k STEPS");
        TwoThirds x = new TwoThirds();
        Due.fill(x, 0, Due.BYTES, many(100, 0));
        Due.same("all", x.shares(0, 9), 100);
        Due.same("none", x.shares(0, 0), 0);
        Due.same("none", x.shares(0, 8), 0);
        x.put(0, 99, 100);
        Due.same("the last", x.shares(0, 0), 1);
        Due.same("all but the last", x.shares(0, 9), 99);
        Due.same("shares(0, -1)", x.shares(0, -1), -1);
        Due.same("shares(0, 10)", x.shares(0, 10), -1);
    }

    private static void words() {
        Due.sentence("WORDS: how many words are the card's STEPS; how many are more");
        TwoThirds x = new TwoThirds();
        Due.fill(x, 0, Due.INTS, 0, 0, 0, 0, 0, 0);
        Due.fill(x, 1, Due.BYTES, 8, 9, 10, 127, -128, -1);
        Due.same("the card's", x.words(0, 1, 0), 1);
        Due.same("more", x.words(0, 1, 1), 2);
        Due.fill(x, 0, Due.INTS, 50, 100, 42, 41);
        Due.fill(x, 1, Due.BYTES, -1, 0, 1, 1);
        Due.same("the card's", x.words(0, 1, 0), 2);
        Due.same("more", x.words(0, 1, 1), 1);
        Due.fill(x, 0, Due.INTS, many(100, 22));
        Due.fill(x, 1, Due.BYTES, many(100, 2));
        Due.same("all of 100", x.words(0, 1, 0), 100);
        Due.same("none of 100", x.words(0, 1, 1), 0);
        Due.sentence("words: of the same size");
        TwoThirds y = new TwoThirds();
        Due.fill(y, 0, Due.BYTES, 50);
        Due.fill(y, 1, Due.BYTES, 0, 0);
        Due.fill(y, 2, Due.BYTES);
        Due.same("one more", y.words(0, 1, 0), -13);
        Due.same("one less", y.words(1, 0, 0), -13);
        Due.same("none", y.words(0, 2, 0), -13);
        Due.same("none, of no cards", y.words(2, 2, 0), -13);
        Due.same("as many", y.words(0, 0, 1), 1);
        Due.fill(y, 3, Due.INTS, 101);
        Due.same("a card that can't be", y.words(3, 0, 0), -13);
        y.put(3, 0, -1);
        Due.same("a card that can't be", y.words(3, 0, 0), -13);
        y.put(3, 0, 100);
        Due.same("a card", y.words(3, 0, 1), 1);
    }

    private static void ahead() {
        Due.sentence("AHEAD: another game (SHARE UP by DOWN, HIGH as it is)");
        TwoThirds x = new TwoThirds();
        Due.fill(x, 0, Due.BYTES, 50, 33, 22, 0);
        Due.same("0/1", x.ahead(0, 0, 1), 50);
        Due.same("0/20", x.ahead(0, 0, 20), 50);
        Due.same("20/1: held to high", x.ahead(0, 20, 1), 350);
        Due.same("20/20", x.ahead(0, 20, 20), 200);
        Due.same("1/20", x.ahead(0, 1, 20), 52);
        Due.same("-1/1", x.ahead(0, -1, 1), -1);
        Due.same("21/1", x.ahead(0, 21, 1), -1);
        Due.same("1/0", x.ahead(0, 1, 0), -1);
        Due.same("1/21", x.ahead(0, 1, 21), -1);
        Due.same("1/-1", x.ahead(0, 1, -1), -1);
        Due.same("the game stays: up", x.count(2), 2);
        Due.same("the game stays: down", x.count(3), 3);
        TwoThirds y = game(1000, 2, 3);
        Due.fill(y, 0, Due.SHORTS, many(100, 0));
        Due.same("the greatest sum", y.ahead(0, 20, 1), 100000);
        y.set(2, 1);
        Due.same("high 1", y.ahead(0, 20, 1), 0);
    }

    private static void worth() {
        Due.sentence("WORTH of one step more than k (0 .. 8): below 0, if it is farther");
        TwoThirds x = new TwoThirds();
        Due.fill(x, 0, Due.BYTES, 0);
        // The target is 0: each level is as far as it is; the last is nought.
        int[] due = {17, 11, 8, 5, 3, 2, 2, 1, 1};
        for (int k = 0; k < 9; k++) {
            Due.same("worth(0, " + k + ")", x.worth(0, k), due[k]);
        }
        Due.same("worth(0, 9)", x.worth(0, 9), LESS - 1);
        Due.same("worth(0, -1)", x.worth(0, -1), LESS - 1);
        Due.fill(x, 0, Due.BYTES, 100, 100, 99);
        // The target is 598 by 9: 50 is 148 below, 33 is 301, 1 is 589, 0 is 598.
        Due.same("farther", x.worth(0, 0), -153);
        Due.same("farther", x.worth(0, 8), -9);
        Due.fill(x, 0, Due.BYTES, 62, 62, 63, 62);
        // 498 by 12 is 83 by 2: 50 is 17 away, 33 is 17 away.
        Due.same("as far", x.worth(0, 0), 0);
        TwoThirds wide = game(1000, 19, 20);
        int[] cards = many(100, 0);
        cards[0] = 1;
        Due.fill(wide, 0, Due.BYTES, cards);
        // 19 by 2000: 500 and 475.
        Due.same("a long line", wide.worth(0, 0), 50000);
        TwoThirds alike = game(1, 20, 1);
        Due.fill(alike, 0, Due.BYTES, 1);
        Due.same("levels are alike", alike.worth(0, 4), 0);
    }

    private static void jokers() {
        Due.sentence("JOKERS: where no card is left without them that TARGET counts as 0");
        TwoThirds x = new TwoThirds();
        Due.fill(x, 0, Due.BYTES, 100);
        fraction("one joker", x.jokers(0, 0), x.jokers(0, 1), 200, 3);
        Due.fill(x, 0, Due.BYTES, many(100, 100));
        fraction("jokers alone", x.jokers(0, 0), x.jokers(0, 1), 200, 3);
        x.put(0, 0, 0);
        fraction("one nought left", x.jokers(0, 0), x.jokers(0, 1), 66, 1);
        x.put(0, 0, 99);
        // 9999 by 150 less 66.
        fraction("one 99 left", x.jokers(0, 0), x.jokers(0, 1), 33, 50);
        Due.sentence("JOKERS: by how much the TARGET is more than without all cards of HIGH, in least terms");
        Due.fill(x, 0, Due.BYTES, 99, 99, 0);
        fraction("none", x.jokers(0, 0), x.jokers(0, 1), 0, 1);
        Due.fill(x, 0, Due.BYTES, 0, 100, 50, 100);
        // 125 by 3 less 50 by 3.
        fraction("two of four", x.jokers(0, 0), x.jokers(0, 1), 25, 1);
        x.set(0, 0);
        fraction("share 0", x.jokers(0, 0), x.jokers(0, 1), 0, 1);
        x.set(0, 20);
        x.set(1, 1);
        x.set(2, 1000);
        int[] half = many(100, 1000);
        half[0] = 0;
        Due.fill(x, 0, Due.INTS, half);
        fraction("the most", x.jokers(0, 0), x.jokers(0, 1), 19800, 1);
        half[1] = 1;
        Due.fill(x, 0, Due.INTS, half);
        // 20 times 98001 by 100 less 10.
        fraction("nearly the most", x.jokers(0, 0), x.jokers(0, 1), 97951, 5);
        x.set(1, 20);
        fraction("20 by 20", x.jokers(0, 0), x.jokers(0, 1), 97951, 100);
    }

    private static void ends() {
        Due.sentence("ENDS: the number at which it stays; after how many times");
        int[][] all = {
            // high, up, down, the number, how many times
            {100, 2, 3, 0, 9}, {100, 3, 3, 50, 0}, {100, 0, 1, 0, 1}, {1, 2, 3, 0, 0}, {1, 20, 1, 0, 0}, {2, 0, 1, 0, 1},
            {2, 2, 1, 2, 1}, {100, 2, 1, 100, 1}, {101, 2, 1, 101, 2}, {99, 20, 19, 99, 17}, {37, 20, 19, 18, 0},
            {38, 20, 19, 38, 19}, {984, 19, 20, 0, 75}, {1000, 20, 19, 1000, 14}, {1000, 20, 1, 1000, 1},
        };
        for (int[] one : all) {
            TwoThirds x = game(one[0], one[1], one[2]);
            String name = "high " + one[0] + ", " + one[1] + "/" + one[2];
            Due.same("ends(0), " + name, x.ends(0), one[3]);
            Due.same("ends(1), " + name, x.ends(1), one[4]);
        }
        Due.sentence("ENDS: at most 100; -4 it doesn't");
        int most = 0;
        for (int up = 0; up <= 20; up++) {
            for (int down = 1; down <= 20; down++) {
                for (int high = 1; high <= 1000; high += 1 + high / 50) {
                    TwoThirds x = game(high, up, down);
                    int number = high / 2;
                    int times = 0;
                    while (Math.min(high, number * up / down) != number) {
                        number = Math.min(high, number * up / down);
                        times++;
                    }
                    most = Math.max(most, times);
                    Due.same("ends(0), high " + high + ", " + up + "/" + down, x.ends(0), number);
                    Due.same("ends(1), high " + high + ", " + up + "/" + down, x.ends(1), times);
                }
            }
        }
        Due.same("no game needs more than 100 times", most <= 100 ? 1 : 0, 1);
    }

    private static void differ() {
        Due.sentence("DIFFER: each number times the size of the other ROW");
        TwoThirds x = new TwoThirds();
        Due.fill(x, 0, Due.BYTES, 50);
        Due.fill(x, 1, Due.INTS, many(100, 50));
        Due.same("alike, 1 and 100", x.differ(0, 1), 0);
        Due.same("alike, 100 and 1", x.differ(1, 0), 0);
        x.put(1, 99, 0);
        // 1 by 100 and 99 by 1; 0 and 1 by 1.
        Due.same("one unlike", x.differ(0, 1), 2);
        Due.same("one unlike", x.differ(1, 0), 2);
        Due.fill(x, 0, Due.BYTES, many(100, 0));
        Due.fill(x, 1, Due.INTS, many(100, 50));
        Due.same("nothing alike, 100 and 100", x.differ(0, 1), 20000);
        Due.same("itself", x.differ(1, 1), 0);
        Due.fill(x, 0, Due.BYTES, 2, 1);
        Due.fill(x, 1, Due.BYTES, 1, 0);
        Due.same("steps 7 and 8, 8 and 9", x.differ(0, 1), 4);
    }

    private static void parts() {
        Due.sentence("PARTS: of games with DOWN as it is and UP 0 .. 20 the one most unlike; of several the least");
        TwoThirds x = Due.with("p2 1 0;p4 0 0;p0 0 0;p5 0 0;p2 1 0;p4 9 20;", 6);
        int[][] all = {
            // down, one, other, up, how unlike
            {20, 0, 1, 20, 50}, {20, 2, 1, 0, 50}, {19, 2, 1, 0, 50}, {3, 0, 1, 3, 50}, {1, 2, 1, 0, 50},
            {3, 0, 2, 0, 50}, {3, 0, 3, 0, 100}, {3, 3, 1, 0, 100}, {20, 3, 1, 0, 100}, {3, 0, 4, 0, 0}, {3, 1, 5, 0, 0},
        };
        for (int[] one : all) {
            x.set(1, one[0]);
            Due.same("parts, down " + one[0] + ", up", x.parts(one[1], one[2], 0), one[3]);
            Due.same("parts, down " + one[0] + ", how unlike", x.parts(one[1], one[2], 1), one[4]);
            Due.same("the other way, up", x.parts(one[2], one[1], 0), one[3]);
            Due.same("the other way, how unlike", x.parts(one[2], one[1], 1), one[4]);
        }
        Due.same("up stays", x.count(2), 2);
        Due.same("one twice", x.parts(0, 0, 0), -1);
        Due.same("two alike are two", x.parts(0, 4, 0), 0);
        Due.sentence("PARTS: what two PEOPLE (neither NOUGHTH nor WRONG) HOLD");
        TwoThirds y = Due.with("p0 0 0;p1 0 0;p2 0 0;p3 0 0;p4 0 0;p5 0 0;p6 0 0;p7 0 0;", 8);
        for (int one = 0; one < 8; one++) {
            for (int other = 0; other < 8; other++) {
                boolean byDraw = one % 6 == 1 || other % 6 == 1;
                int due = one == other ? -1 : byDraw ? -3 : 0;
                Due.same("parts(" + one + ", " + other + ", 0)", Math.min(y.parts(one, other, 0), 0), due);
            }
        }
        Due.same("no draw was made", Due.zOf(y), 1);
    }

    private static void judged() {
        Due.sentence("JUDGED: by numbers, as far as it goes");
        TwoThirds x = Due.with("p0 0 0;p5 0 0;p4 0 0;", 3);
        x.round();
        int least = Integer.MIN_VALUE;
        int[][] all = {
            // the answer, then what is told
            {-4}, {-4, 50}, {-4, 50, 100}, {-4, 50, 100, 0}, {0, 49}, {0, 51}, {0, 49, 99, 1}, {1, 50, 99, 1}, {2, 50, 100, 1},
            {2, 50, 100, -1}, {0, -1}, {0, Integer.MAX_VALUE},
        };
        for (int[] one : all) {
            for (int sort = 0; sort < 3; sort++) {
                Due.fill(x, sort, sort, java.util.Arrays.copyOfRange(one, 1, one.length));
                Due.same("judge, sort " + sort, x.judge(sort), one[0]);
            }
        }
        Due.sentence("JUDGED: how many PEOPLE, if the ROW is longer");
        Due.fill(x, 3, Due.BYTES, 50, 100, 0, 0);
        Due.same("one longer", x.judge(3), 3);
        Due.fill(x, 3, Due.BYTES, 50, 100, 1, 0);
        Due.same("one longer, an unlike one ahead", x.judge(3), 2);
        Due.same("row(3, 0, 100)", x.row(3, 0, 100), 0);
        Due.same("100 noughts", x.judge(3), 0);
        x.put(3, 0, 50);
        x.put(3, 1, 100);
        Due.same("97 longer", x.judge(3), 3);
        Due.sentence("JUDGED: the least number of the SORT is not told and skipped");
        TwoThirds y = Due.with("p0 0 0;p5 0 0;p4 0 0;", 3);
        y.round();
        int[] untold = {-128, -32768, least};
        for (int sort = 0; sort < 3; sort++) {
            Due.fill(y, 0, sort, untold[sort], untold[sort], untold[sort]);
            Due.same("nothing is told", y.judge(0), -4);
            Due.fill(y, 0, sort, untold[sort], 100, untold[sort]);
            Due.same("one is told", y.judge(0), -4);
            Due.fill(y, 0, sort, untold[sort], 99, untold[sort]);
            Due.same("one is told wrong", y.judge(0), 1);
            Due.fill(y, 0, sort, untold[sort] + 1);
            Due.same("one more than the least is told", y.judge(0), 0);
            Due.fill(y, 0, sort, untold[sort], 100, 0, 0);
            Due.same("longer", y.judge(0), 3);
        }
        Due.fill(y, 0, Due.SHORTS, -128);
        Due.same("of shorts -128 is told", y.judge(0), 0);
        Due.fill(y, 0, Due.INTS, -128);
        Due.same("of ints -128 is told", y.judge(0), 0);
        Due.fill(y, 0, Due.INTS, -32768);
        Due.same("of ints -32768 is told", y.judge(0), 0);
        TwoThirds twelve = Due.with("p5 0 0;p5 0 0;p5 0 0;p5 0 0;p5 0 0;p5 0 0;p5 0 0;p5 0 0;p5 0 0;p5 0 0;p5 0 0;p0 0 0;", 12);
        twelve.round();
        int[] told = many(12, 100);
        Due.fill(twelve, 0, Due.BYTES, told);
        Due.same("the last of twelve", twelve.judge(0), 11);
        told[11] = 50;
        Due.fill(twelve, 0, Due.BYTES, told);
        Due.same("all twelve", twelve.judge(0), -4);
        Due.fill(twelve, 0, Due.BYTES, java.util.Arrays.copyOf(told, 13));
        Due.same("thirteen", twelve.judge(0), 12);
    }

    private static void theImage() {
        Due.sentence("restore: -3: there is none");
        TwoThirds x = Due.with("p0 1 2;", 1);
        Due.same("restore()", x.restore(), -3);
        Due.same("restore() again", x.restore(), -3);
        Due.same("it is as it was", x.count(0), 1);
        Due.same("image()", x.image(), 1);
        Due.same("restore()", x.restore(), 1);
        Due.same("restore() again", x.restore(), 1);
        Due.sentence("THE IMAGE: all that there is, but SHELVES (and THE IMAGE)");
        TwoThirds y = Due.with("b;g3/4;h60;p2 3 1;p1 0 0;p6 2 0;", 6);
        y.set(4, -9);
        y.round();
        Due.fill(y, 0, Due.SHORTS, 5, 6);
        y.keep(1, 1, 2);
        String then = Seen.game(y);
        Due.same("image()", y.image(), 3);
        Due.sameText("it stays as it is", Seen.game(y), then);
        y.anew();
        Due.crowd(y, "n;g1/1;h9;p5 0 0;", 4);
        y.set(4, 1000);
        y.steps(0, 9);
        y.round();
        y.put(0, 0, 7);
        y.keep(2, 1, 3);
        String shelves = Seen.shelves(y);
        Due.same("restore()", y.restore(), 3);
        Due.sameText("as it was then", Seen.game(y), then);
        Due.sameText("SHELVES stay as they are", Seen.shelves(y), shelves);
        y.anew();
        Due.same("prize", y.set(3, 0), 1);
        Due.sentence("THE IMAGE of nothing, and of twelve");
        TwoThirds z = new TwoThirds();
        Due.same("image()", z.image(), 0);
        Due.crowd(z, "p0 0 0;".repeat(12), 12);
        Due.same("restore()", z.restore(), 0);
        Due.same("count(0)", z.count(0), 0);
        Due.crowd(z, "p0 0 0;".repeat(12), 12);
        Due.same("image()", z.image(), 12);
        z.round();
        Due.same("restore()", z.restore(), 12);
        Due.same("count(1)", z.count(1), 0);
    }
}
