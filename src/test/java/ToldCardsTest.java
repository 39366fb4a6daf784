/** Promises 12 to 23: mean, winners, best, level, stepsOf, shares, words, ahead, worth, jokers, differ, judge. */
public final class ToldCardsTest {
    private static final long LESS = -4000000000000000000L;

    public static void main(String[] args) {
        mean();
        winners();
        best();
        level();
        stepsOf();
        shares();
        words();
        ahead();
        worth();
        jokers();
        differ();
        judge();
        rowsThatAreNoCards();
        Due.end("ToldCardsTest");
    }

    private static void mean() {
        TwoThirds x = new TwoThirds();
        Due.fill(x, 0, Due.BYTES, 6, 10, 0, 8);
        Due.same("mean above", x.mean(0, 0, 0), 6);
        Due.same("mean below", x.mean(0, 0, 1), 1);
        Due.same("target above", x.mean(0, 1, 0), 4);
        Due.same("target below", x.mean(0, 1, 1), 1);
        Due.fill(x, 0, Due.INTS, 100, 99, 1);
        Due.same("mean above", x.mean(0, 0, 0), 200);
        Due.same("mean below", x.mean(0, 0, 1), 3);
        Due.same("target above", x.mean(0, 1, 0), 400);
        Due.same("target below", x.mean(0, 1, 1), 9);
        Due.fill(x, 0, Due.SHORTS, 0, 0);
        Due.same("nought above", x.mean(0, 0, 0), 0);
        Due.same("one below", x.mean(0, 0, 1), 1);
        Due.same("nought above", x.mean(0, 1, 0), 0);
        Due.same("one below", x.mean(0, 1, 1), 1);
        Due.same("what 2", x.mean(0, 2, 0), -1);
        Due.same("what -1", x.mean(0, -1, 0), -1);
        Due.same("part 2", x.mean(0, 0, 2), -1);
        Due.same("part -1", x.mean(0, 0, -1), -1);
        Due.same("no such shelf", x.mean(8, 0, 0), -1);
        Due.same("-1 ahead of -11", x.mean(1, 2, 0), -1);
        Due.same("-11", x.mean(1, 0, 0), -11);
        x.set(0, 20);
        x.set(1, 1);
        x.set(2, 1000);
        int[] many = new int[100];
        java.util.Arrays.fill(many, 1000);
        Due.fill(x, 0, Due.SHORTS, many);
        Due.same("greatest target", x.mean(0, 1, 0), 20000);
        Due.same("greatest target", x.mean(0, 1, 1), 1);
    }

    private static void winners() {
        TwoThirds x = new TwoThirds();
        Due.fill(x, 0, Due.BYTES, 30, 10, 20, 10, 30);
        // Mean 20, target 40 by 3: 10 is 10 thirds away, 20 is 20 thirds.
        Due.same("how many", x.winners(0, 0), 2);
        Due.same("the first", x.winners(0, 1), 1);
        x.set(0, 3);
        Due.same("20 alone", x.winners(0, 0), 1);
        Due.same("20 is the third", x.winners(0, 1), 2);
        Due.fill(x, 0, Due.BYTES, 30, 10, 10, 30);
        Due.same("all are as far", x.winners(0, 0), 4);
        Due.same("the first", x.winners(0, 1), 0);
        x.set(3, 1);
        Due.same("below", x.winners(0, 0), 2);
        Due.same("the first below", x.winners(0, 1), 1);
        Due.fill(x, 0, Due.BYTES, 0, 15, 15, 20);
        // Target 50 by 4: only 0 is no more.
        Due.same("below", x.winners(0, 0), 1);
        Due.same("the first", x.winners(0, 1), 0);
        x.set(0, 2);
        Due.fill(x, 0, Due.BYTES, 7);
        Due.same("below: nobody", x.winners(0, 0), 0);
        Due.same("below: nobody", x.winners(0, 1), -4);
        x.set(3, 0);
        Due.same("nearest: one", x.winners(0, 0), 1);
        x.set(0, 0);
        Due.fill(x, 0, Due.BYTES, 5, 3);
        Due.same("nearest to nought", x.winners(0, 1), 1);
        Due.same("what 2", x.winners(0, 2), -1);
        Due.same("what -1", x.winners(0, -1), -1);
        Due.same("no such shelf", x.winners(-1, 0), -1);
        Due.same("-11", x.winners(1, 1), -11);
    }

    private static void best() {
        TwoThirds x = new TwoThirds();
        // With c more: two thirds of (30 + c) by 2 is (30 + c) by 3: c is that at 15.
        Due.fill(x, 0, Due.BYTES, 30);
        Due.same("best", x.best(0), 15);
        // (32 + c) by 3 is 16 at 16; (31 + c) by 3: 15 and 16 are both a third away.
        Due.fill(x, 0, Due.BYTES, 31);
        Due.same("of two the least", x.best(0), 15);
        x.set(3, 1);
        Due.same("below", x.best(0), 15);
        // 20 times the mean lies above each card: below takes the greatest, nearest the least far.
        x.set(0, 20);
        x.set(1, 1);
        Due.same("below, a steep target", x.best(0), 100);
        x.set(3, 0);
        Due.same("nearest, a steep target", x.best(0), 0);
        x.set(0, 0);
        Due.same("share 0", x.best(0), 0);
        x.set(3, 1);
        Due.same("share 0, below", x.best(0), 0);
        x.set(0, 1);
        Due.fill(x, 0, Due.BYTES, 40, 40);
        Due.same("the mean, below", x.best(0), 40);
        x.set(2, 1000);
        Due.fill(x, 0, Due.SHORTS, 1000);
        Due.same("up to high", x.best(0), 1000);
        Due.same("-1", x.best(8), -1);
        Due.same("-11", x.best(1), -11);
    }

    private static void level() {
        TwoThirds x = new TwoThirds();
        int[] due = {50, 33, 22, 14, 9, 6, 4, 2, 1, 0};
        for (int k = 0; k < 10; k++) {
            Due.same("level(" + k + ")", x.level(k), due[k]);
        }
        Due.same("level(-1)", x.level(-1), -1);
        Due.same("level(10)", x.level(10), -1);
        x.set(2, 35);
        x.set(0, 20);
        Due.same("level(0)", x.level(0), 17);
        Due.same("held to high", x.level(1), 35);
        x.set(1, 20);
        Due.same("stays", x.level(9), 17);
    }

    private static void stepsOf() {
        TwoThirds x = new TwoThirds();
        Due.same("the level itself", x.stepsOf(50), 0);
        Due.same("more than all", x.stepsOf(100), 0);
        Due.same("9 from 50, 8 from 33", x.stepsOf(41), 1);
        Due.same("8 from 50", x.stepsOf(42), 0);
        Due.same("as far from 22 as from 14: the least", x.stepsOf(18), 2);
        Due.same("as far from 4 as from 2: the least", x.stepsOf(3), 6);
        Due.same("nought", x.stepsOf(0), 9);
        Due.same("stepsOf(101)", x.stepsOf(101), -1);
        Due.same("stepsOf(-1)", x.stepsOf(-1), -1);
        x.set(0, 3);
        Due.same("all levels alike", x.stepsOf(7), 0);
        x.set(0, 0);
        Due.same("nought from 1 on", x.stepsOf(0), 1);
        x.set(2, 10);
        Due.same("stepsOf(11)", x.stepsOf(11), -1);
        Due.same("stepsOf(10)", x.stepsOf(10), 0);
    }

    private static void shares() {
        TwoThirds x = new TwoThirds();
        Due.fill(x, 0, Due.INTS, 100, 0, 50, 33, 18, 22, 3, 60);
        int[] due = {3, 1, 2, 0, 0, 0, 1, 0, 0, 1};
        for (int k = 0; k < 10; k++) {
            Due.same("shares(0, " + k + ")", x.shares(0, k), due[k]);
        }
        Due.same("k -1", x.shares(0, -1), -1);
        Due.same("k 10", x.shares(0, 10), -1);
        Due.same("no such shelf", x.shares(8, 0), -1);
        Due.same("-11", x.shares(1, 0), -11);
    }

    private static void words() {
        TwoThirds x = new TwoThirds();
        Due.fill(x, 0, Due.SHORTS, 100, 33, 33, 0, 22, 50);
        Due.fill(x, 1, Due.BYTES, 0, 1, 2, 8, 127, -128);
        Due.same("as they say", x.words(0, 1, 0), 2);
        Due.same("more than they say", x.words(0, 1, 1), 2);
        Due.same("what 2", x.words(0, 1, 2), -1);
        Due.same("what -1", x.words(0, 1, -1), -1);
        Due.same("shelf 8", x.words(8, 1, 0), -1);
        Due.same("shelf -1", x.words(0, -1, 0), -1);
        Due.same("-1 ahead of -11", x.words(2, 3, 2), -1);
        Due.same("d empty", x.words(2, 1, 0), -11);
        Due.same("e empty", x.words(0, 2, 0), -11);
        Due.fill(x, 2, Due.SHORTS, 0, 1, 2, 8, 127, -128);
        Due.same("e no bytes", x.words(0, 2, 0), -12);
        Due.fill(x, 3, Due.BYTES, 0, 1, 2, 8, 127);
        Due.same("unlike sizes", x.words(0, 3, 0), -13);
        Due.fill(x, 3, Due.BYTES, 0, 1, 2, 8, 127, 0, 0);
        Due.same("unlike sizes", x.words(0, 3, 0), -13);
        x.put(0, 5, 101);
        Due.same("no card", x.words(0, 1, 0), -13);
        Due.same("-12 ahead of -13", x.words(0, 2, 0), -12);
        Due.fill(x, 4, Due.BYTES);
        Due.same("empty rows", x.words(4, 4, 0), -13);
        Due.fill(x, 5, Due.BYTES, 0, 9);
        Due.same("a row beside itself", x.words(5, 5, 0), 0);
        Due.same("a row beside itself", x.words(5, 5, 1), 1);
        TwoThirds y = new TwoThirds();
        y.set(2, 1);
        Due.fill(y, 0, Due.BYTES, 1, 1);
        Due.fill(y, 1, Due.BYTES, 1, 1);
        Due.same("all levels are 0", y.words(0, 1, 0), 0);
        Due.same("all levels are 0", y.words(0, 1, 1), 2);
        Due.crowd(x, "p0 0 0;", 1);
        x.keep(6, 1, 0);
        Due.same("d a person", x.words(6, 1, 0), -12);
        Due.same("e a person", x.words(0, 6, 0), -12);
        Due.same("-11 ahead of -12", x.words(6, 7, 0), -11);
        Due.same("-11 ahead of -12", x.words(7, 6, 0), -11);
    }

    private static void ahead() {
        TwoThirds x = new TwoThirds();
        Due.fill(x, 0, Due.BYTES, 50, 33, 0);
        // By half: 50, 25 and, nine times, 0. By 2: 50, 100, 100.
        Due.same("by half", x.ahead(0, 1, 2), 75);
        Due.same("by 2", x.ahead(0, 2, 1), 250);
        Due.same("by 0", x.ahead(0, 0, 1), 50);
        Due.same("as it is", x.ahead(0, 2, 3), 83);
        Due.same("the game stays", x.count(2), 2);
        Due.same("the game stays", x.count(3), 3);
        Due.same("20 by 20", x.ahead(0, 20, 20), 150);
        Due.same("up 21", x.ahead(0, 21, 1), -1);
        Due.same("up -1", x.ahead(0, -1, 1), -1);
        Due.same("down 0", x.ahead(0, 1, 0), -1);
        Due.same("down 21", x.ahead(0, 1, 21), -1);
        Due.same("shelf 8", x.ahead(8, 1, 1), -1);
        Due.same("-1 ahead of -11", x.ahead(1, 1, 0), -1);
        Due.same("-11", x.ahead(1, 1, 1), -11);
    }

    private static void worth() {
        TwoThirds x = new TwoThirds();
        Due.fill(x, 0, Due.BYTES, 60, 30);
        // Target 30 by 1: 50 is 20 away, 33 is 3, 22 is 8.
        Due.same("worth(0, 0)", x.worth(0, 0), 17);
        Due.same("worth(0, 1)", x.worth(0, 1), -5);
        Due.same("worth(0, 8)", x.worth(0, 8), -1);
        Due.fill(x, 0, Due.INTS, 1, 0);
        // Target 1 by 3: 1 is 2 thirds away, 0 is one.
        Due.same("worth(0, 8)", x.worth(0, 8), 1);
        Due.same("worth(0, 7)", x.worth(0, 7), 3);
        Due.same("k 9", x.worth(0, 9), LESS - 1);
        Due.same("k -1", x.worth(0, -1), LESS - 1);
        Due.same("shelf 8", x.worth(8, 0), LESS - 1);
        Due.same("-1 ahead of -11", x.worth(1, 9), LESS - 1);
        Due.same("-11", x.worth(1, 0), LESS - 11);
        Due.crowd(x, "p0 0 0;", 1);
        x.keep(1, 1, 0);
        Due.same("-12", x.worth(1, 0), LESS - 12);
        Due.fill(x, 1, Due.BYTES, -1);
        Due.same("-13", x.worth(1, 0), LESS - 13);
    }

    private static void jokers() {
        TwoThirds x = new TwoThirds();
        Due.fill(x, 0, Due.BYTES, 10, 100, 20, 100);
        // 460 by 12 less 60 by 6: 28 and a third.
        Due.same("above", x.jokers(0, 0), 85);
        Due.same("below", x.jokers(0, 1), 3);
        Due.fill(x, 0, Due.BYTES, 10, 99);
        Due.same("no jokers", x.jokers(0, 0), 0);
        Due.same("no jokers", x.jokers(0, 1), 1);
        Due.fill(x, 0, Due.BYTES, 100, 100, 100);
        Due.same("jokers alone", x.jokers(0, 0), 200);
        Due.same("jokers alone", x.jokers(0, 1), 3);
        Due.fill(x, 0, Due.BYTES, 100, 0);
        Due.same("the others wrote nought", x.jokers(0, 0), 100);
        Due.same("the others wrote nought", x.jokers(0, 1), 3);
        x.set(0, 0);
        Due.same("share 0", x.jokers(0, 0), 0);
        Due.same("share 0", x.jokers(0, 1), 1);
        x.set(0, 2);
        x.set(2, 120);
        Due.same("100 is no joker's", x.jokers(0, 0), 0);
        Due.same("part 2", x.jokers(0, 2), -1);
        Due.same("part -1", x.jokers(0, -1), -1);
        Due.same("shelf -1", x.jokers(-1, 0), -1);
        Due.same("-11", x.jokers(1, 0), -11);
        x.set(0, 20);
        x.set(1, 1);
        x.set(2, 1000);
        int[] half = new int[100];
        for (int i = 0; i < 100; i++) {
            half[i] = i % 2 == 0 ? 1000 : 0;
        }
        Due.fill(x, 0, Due.SHORTS, half);
        Due.same("large", x.jokers(0, 0), 10000);
        Due.same("large", x.jokers(0, 1), 1);
    }

    private static void differ() {
        TwoThirds x = new TwoThirds();
        Due.fill(x, 0, Due.BYTES, 50, 50, 33);
        Due.fill(x, 1, Due.SHORTS, 50, 22);
        // 0: 2 by 3 and 1 by 2: 4 less 3; 1: 2; 2: 3.
        Due.same("differ", x.differ(0, 1), 6);
        Due.same("the other way", x.differ(1, 0), 6);
        Due.same("a row and itself", x.differ(0, 0), 0);
        Due.fill(x, 2, Due.INTS, 0, 0);
        Due.same("nothing alike", x.differ(0, 2), 12);
        Due.same("shelf 8", x.differ(0, 8), -1);
        Due.same("shelf -1", x.differ(-1, 0), -1);
        Due.same("-11", x.differ(3, 0), -11);
        Due.same("-11", x.differ(0, 3), -11);
        Due.crowd(x, "p0 0 0;", 1);
        x.keep(4, 1, 0);
        Due.same("-12", x.differ(4, 0), -12);
        Due.same("-12", x.differ(0, 4), -12);
        Due.same("-11 ahead of -12", x.differ(4, 3), -11);
        Due.fill(x, 5, Due.INTS, 101);
        Due.same("-13", x.differ(5, 0), -13);
        Due.same("-13", x.differ(0, 5), -13);
        Due.same("-12 ahead of -13", x.differ(5, 4), -12);
    }

    private static void judge() {
        TwoThirds x = Due.with("p0 0 0;p5 0 0;p2 1 0;", 3);
        Due.fill(x, 0, Due.BYTES, 50, 100, 33);
        Due.same("no round", x.judge(0), -3);
        Due.same("-1 ahead of -3", x.judge(8), -1);
        Due.same("-3 ahead of -11", x.judge(1), -3);
        x.round();
        Due.same("all as told", x.judge(0), -4);
        Due.same("-1", x.judge(-1), -1);
        Due.same("-11", x.judge(1), -11);
        x.keep(1, 1, 0);
        Due.same("-12", x.judge(1), -12);
        x.put(0, 2, 34);
        Due.same("the last", x.judge(0), 2);
        x.put(0, 0, -1);
        Due.same("the first", x.judge(0), 0);
        Due.fill(x, 0, Due.BYTES, -128, 100, -128);
        Due.same("bytes not told", x.judge(0), -4);
        Due.fill(x, 0, Due.SHORTS, -32768, 100, -128);
        Due.same("shorts not told", x.judge(0), 2);
        Due.fill(x, 0, Due.SHORTS, -32768, -32768, -32768);
        Due.same("shorts not told", x.judge(0), -4);
        Due.fill(x, 0, Due.INTS, Integer.MIN_VALUE, -32768);
        Due.same("ints not told", x.judge(0), 1);
        Due.fill(x, 0, Due.INTS, 50);
        Due.same("as far as it goes", x.judge(0), -4);
        Due.fill(x, 0, Due.INTS);
        Due.same("a row of none", x.judge(0), -4);
        Due.fill(x, 0, Due.INTS, 50, 100, 33, 0);
        Due.same("longer", x.judge(0), 3);
        Due.fill(x, 0, Due.INTS, 50, 100, 34, 0);
        Due.same("unlike ahead of longer", x.judge(0), 2);
        Due.fill(x, 0, Due.BYTES, 50, 100, 33, -128);
        Due.same("longer by what isn't told", x.judge(0), 3);
        x.anew();
        Due.same("anew", x.judge(0), -3);
    }

    private static void rowsThatAreNoCards() {
        TwoThirds x = Due.with("p0 0 0;", 1);
        for (int sort = 0; sort < 3; sort++) {
            Due.fill(x, 0, sort, 0, 100);
            cards(x, 0, 1);
            Due.fill(x, 0, sort, 0, 101);
            cards(x, 0, -13);
            Due.fill(x, 0, sort, -1, 0);
            cards(x, 0, -13);
            Due.fill(x, 0, sort);
            cards(x, 0, -13);
        }
        x.keep(0, 1, 0);
        cards(x, 0, -12);
        Due.fill(x, 0, Due.INTS, 65536);
        cards(x, 0, -13);
        Due.fill(x, 0, Due.SHORTS, 65536);
        cards(x, 0, 1);
    }

    private static void cards(TwoThirds x, int d, int due) {
        int[] answers = {
            x.mean(d, 0, 0), x.winners(d, 0), x.best(d), x.shares(d, 0), x.ahead(d, 1, 1), x.jokers(d, 0), x.differ(d, d),
        };
        for (int i = 0; i < answers.length; i++) {
            Due.same("told cards, call " + i, due > 0 ? Math.min(answers[i], 0) : answers[i], Math.min(due, 0));
        }
    }
}
