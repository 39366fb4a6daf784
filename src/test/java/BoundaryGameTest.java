/** The boundaries that "1 THE GAME" names: ranges, what is held, draws, rounds, depths, shelves. */
public final class BoundaryGameTest {
    private static final int SIGN = Integer.MIN_VALUE;

    public static void main(String[] args) {
        ranges();
        people();
        whatPeopleHold();
        draws();
        cards();
        rounds();
        depths();
        shelves();
        Due.end("BoundaryGameTest");
    }

    // ---- ranges

    private static void ranges() {
        share();
        high();
        prize();
        nearest();
        below();
    }

    private static void range(TwoThirds x, int what, int least, int most, int atFirst) {
        String name = "set(" + what + ", ";
        Due.same(name + "one less than the least)", x.set(what, least - 1), -1);
        Due.same(name + "least int)", x.set(what, Integer.MIN_VALUE), -1);
        Due.same(name + "one more than the most)", x.set(what, most + 1), -1);
        Due.same(name + "greatest int)", x.set(what, Integer.MAX_VALUE), -1);
        Due.same(name + "least)", x.set(what, least), atFirst);
        Due.same(name + "least, again)", x.set(what, least), least);
        Due.same(name + "most)", x.set(what, most), least);
        Due.same(name + "most, again)", x.set(what, most), most);
        Due.same(name + "one more than the most)", x.set(what, most + 1), -1);
        Due.same("it stays", x.set(what, most), most);
    }

    private static void share() {
        Due.sentence("UP 0 .. 20");
        range(new TwoThirds(), 0, 0, 20, 2);
        Due.crowd(new TwoThirds(), "g0/3;", 1);
        Due.crowd(new TwoThirds(), "g20/3;", 1);
        Due.crowd(new TwoThirds(), "g21/3;", -2000);
        Due.crowd(new TwoThirds(), "g9999/3;", -2000);
        Due.sentence("DOWN 1 .. 20");
        range(new TwoThirds(), 1, 1, 20, 3);
        Due.crowd(new TwoThirds(), "g2/0;", -2000);
        Due.crowd(new TwoThirds(), "g2/1;", 1);
        Due.crowd(new TwoThirds(), "g2/20;", 1);
        Due.crowd(new TwoThirds(), "g2/21;", -2000);
        Due.crowd(new TwoThirds(), "g2/9999;", -2000);
        Due.sentence("2 by 3 at first");
        TwoThirds x = new TwoThirds();
        Due.same("count(2)", x.count(2), 2);
        Due.same("count(3)", x.count(3), 3);
    }

    private static void high() {
        Due.sentence("HIGH (1 .. 1000; 100 at first)");
        Due.same("count(4)", new TwoThirds().count(4), 100);
        range(new TwoThirds(), 2, 1, 1000, 100);
        Due.crowd(new TwoThirds(), "h0;", -2000);
        Due.crowd(new TwoThirds(), "h1;", 1);
        Due.crowd(new TwoThirds(), "h1000;", 1);
        Due.crowd(new TwoThirds(), "h1001;", -2000);
        Due.crowd(new TwoThirds(), "h9999;", -2000);
        Due.sentence("cards are 0 .. HIGH");
        for (int high : new int[] {1, 2, 100, 999, 1000}) {
            TwoThirds x = new TwoThirds();
            x.set(2, high);
            Due.same("stepsOf(-1)", x.stepsOf(-1), -1);
            Due.same("stepsOf(0) is told", x.stepsOf(0) < 0 ? 0 : 1, 1);
            Due.same("stepsOf(high) is told", x.stepsOf(high) < 0 ? 0 : 1, 1);
            Due.same("stepsOf(high and 1)", x.stepsOf(high + 1), -1);
            Due.fill(x, 0, Due.SHORTS, 0, high);
            Due.same("mean of 0 and high", x.mean(0, 0, 0), high % 2 == 0 ? high / 2 : high);
            Due.fill(x, 0, Due.SHORTS, 0, high + 1);
            Due.same("mean with high and 1", x.mean(0, 0, 0), -13);
            Due.fill(x, 0, Due.SHORTS, -1, high);
            Due.same("mean with -1", x.mean(0, 0, 0), -13);
        }
    }

    private static void prize() {
        Due.sentence("PRIZE 0 (NEAREST, at first) or 1 (BELOW)");
        range(new TwoThirds(), 3, 0, 1, 0);
        TwoThirds x = new TwoThirds();
        Due.fill(x, 0, Due.BYTES, 60, 30, 0);
        // The target is 20: 30 is nearest, 0 is no more.
        Due.same("at first the nearest wins", x.winners(0, 1), 1);
        x.set(3, 1);
        Due.same("below", x.winners(0, 1), 2);
        x.set(3, 0);
        Due.same("nearest", x.winners(0, 1), 1);
    }

    private static void nearest() {
        Due.sentence("NEAREST: those win whose card is least far from the TARGET");
        TwoThirds x = new TwoThirds();
        x.set(0, 1);
        x.set(1, 1);
        Due.fill(x, 0, Due.BYTES, 2, 4);
        Due.same("one above and one below are as far", x.winners(0, 0), 2);
        Due.fill(x, 0, Due.BYTES, 2, 3, 4);
        Due.same("one upon it wins alone", x.winners(0, 0), 1);
        Due.same("one upon it", x.winners(0, 1), 1);
        Due.fill(x, 0, Due.BYTES, 0, 4, 4, 5);
        // The mean is 13 by 4: 4 is 3 quarters away, 5 is 7.
        Due.same("quarters count", x.winners(0, 0), 2);
        Due.same("quarters count", x.winners(0, 1), 1);
        Due.fill(x, 0, Due.BYTES, 3, 4, 4);
        // 11 by 3: 3 is two thirds away, 4 is one third.
        Due.same("thirds count, though cut both are near", x.winners(0, 1), 1);
        Due.fill(x, 0, Due.BYTES, 7);
        Due.same("one alone wins", x.winners(0, 0), 1);
    }

    private static void below() {
        Due.sentence("BELOW: those with the greatest card that is no more than the TARGET (nobody, if there is none)");
        TwoThirds x = new TwoThirds();
        x.set(3, 1);
        x.set(0, 1);
        x.set(1, 1);
        Due.fill(x, 0, Due.BYTES, 3, 3, 3);
        Due.same("no more than the target: upon it", x.winners(0, 0), 3);
        Due.fill(x, 0, Due.BYTES, 1, 3, 5, 3);
        Due.same("upon it", x.winners(0, 0), 2);
        Due.same("upon it", x.winners(0, 1), 1);
        Due.fill(x, 0, Due.BYTES, 3, 3, 2);
        // 8 by 3: 3 is a third more.
        Due.same("a third more is more", x.winners(0, 0), 1);
        Due.same("a third more is more", x.winners(0, 1), 2);
        x.set(0, 2);
        x.set(1, 3);
        Due.fill(x, 0, Due.BYTES, 1);
        Due.same("nobody", x.winners(0, 0), 0);
        Due.same("nobody is the first", x.winners(0, 1), -4);
        Due.fill(x, 0, Due.BYTES, 0);
        Due.same("nought is no more than nought", x.winners(0, 0), 1);
        x.set(0, 0);
        Due.fill(x, 0, Due.BYTES, 1, 0, 100);
        Due.same("nought alone", x.winners(0, 1), 1);
        x.set(0, 20);
        x.set(1, 1);
        Due.fill(x, 0, Due.BYTES, 1, 2, 1, 2);
        Due.same("the greatest of all", x.winners(0, 0), 2);
        Due.same("the greatest of all", x.winners(0, 1), 1);
    }

    // ---- people

    private static void people() {
        Due.sentence("PEOPLE 0 .. 11 as they come");
        TwoThirds x = Due.with("p0 0 0;p1 1 1;p2 2 2;p3 3 3;p4 4 4;p5 5 5;p6 6 6;p7 7 7;p0 8 8;p1 9 9;p2 0 10;", 11);
        Due.same("of(10, 2)", x.of(10, 2), 10);
        Due.same("of(11, 0)", x.of(11, 0), -1);
        Due.crowd(x, "p3 1 11;", 1);
        Due.same("count(0)", x.count(0), 12);
        for (int person = 0; person < 12; person++) {
            Due.same("kind of " + person, x.of(person, 0), person % 8 == person ? person : person - 8);
            Due.same("slip of " + person, x.of(person, 2), person);
        }
        Due.same("of(-1, 0)", x.of(-1, 0), -1);
        Due.same("of(12, 0)", x.of(12, 0), -1);
        Due.crowd(x, "p3 1 11;", -2000);
        Due.same("count(0)", x.count(0), 12);
        Due.sentence("KINDS: 0 PERSON .. 7 WRONG");
        Due.crowd(new TwoThirds(), "p0 0 0;p7 0 0;", 2);
        Due.crowd(new TwoThirds(), "p8 0 0;", -2000);
        Due.crowd(new TwoThirds(), "p9 0 0;", -2000);
        Due.sentence("STEPS (0 .. 9)");
        TwoThirds y = Due.with("p2 0 0;p2 9 0;", 2);
        Due.same("of(0, 1)", y.of(0, 1), 0);
        Due.same("of(1, 1)", y.of(1, 1), 9);
        Due.same("steps(0, -1)", y.steps(0, -1), -1);
        Due.same("steps(0, 10)", y.steps(0, 10), -1);
        Due.same("steps(0, 9)", y.steps(0, 9), 0);
        Due.same("steps(0, 0)", y.steps(0, 0), 9);
        Due.same("of(0, 1)", y.of(0, 1), 0);
        Due.sentence("SLIP (0 .. 20)");
        TwoThirds z = Due.with("p0 0 0;p0 0 20;", 2);
        Due.same("of(0, 2)", z.of(0, 2), 0);
        Due.same("of(1, 2)", z.of(1, 2), 20);
        Due.crowd(z, "p0 0 21;", -2000);
        Due.crowd(z, "p0 0 9999;", -2000);
        Due.sentence("Each has its CARD of the last ROUND (-1: none yet)");
        Due.same("of(0, 3)", z.of(0, 3), -4);
        z.round();
        Due.same("of(0, 3)", z.of(0, 3), 50);
        z.anew();
        Due.same("of(0, 3)", z.of(0, 3), -4);
    }

    // ---- what people hold

    private static void whatPeopleHold() {
        person();
        stepping();
        mixing();
        endedAndJoking();
        learning();
        aheadOfSlips();
    }

    /** What one of a kind with 0, 1, .. steps holds, where all is told by high and the share. */
    private static void holds(int kind, int high, int up, int down, int... due) {
        TwoThirds x = Due.with("p" + kind + " 0 20;", 1);
        x.set(0, up);
        x.set(1, down);
        x.set(2, high);
        for (int k = 0; k < due.length; k++) {
            x.steps(0, k);
            Due.same("kind " + kind + " of " + k + " steps, " + up + "/" + down + ", high " + high, x.holds(0), due[k]);
        }
    }

    private static void person() {
        Due.sentence("PERSON: HIGH by 2");
        holds(0, 1, 2, 3, 0, 0);
        holds(0, 2, 2, 3, 1, 1);
        holds(0, 3, 2, 3, 1, 1);
        holds(0, 999, 2, 3, 499);
        holds(0, 1000, 2, 3, 500, 500, 500, 500, 500, 500, 500, 500, 500, 500);
    }

    private static void stepping() {
        Due.sentence("STEPPING: HIGH by 2 for 0 STEPS; for k STEPS SHARE times what k less 1 STEPS hold, cut each time");
        holds(2, 100, 2, 3, 50, 33, 22, 14, 9, 6, 4, 2, 1, 0);
        holds(2, 1, 20, 1, 0, 0, 0, 0, 0, 0, 0, 0, 0, 0);
        holds(2, 2, 20, 1, 1, 2, 2, 2, 2, 2, 2, 2, 2, 2);
        holds(2, 100, 0, 1, 50, 0, 0);
        holds(2, 101, 20, 20, 50, 50, 50);
        holds(2, 1000, 20, 19, 500, 526, 553, 582, 612, 644, 677, 712, 749, 788);
        holds(2, 1000, 19, 20, 500, 475, 451, 428, 406, 385, 365, 346, 328, 311);
        holds(2, 99, 2, 1, 49, 98, 99, 99);
        holds(2, 100, 2, 1, 50, 100, 100, 100);
        Due.sentence("LEVELS: what STEPPING holds for 0 .. 9 STEPS");
        TwoThirds x = new TwoThirds();
        Due.same("level(-1)", x.level(-1), -1);
        Due.same("level(0)", x.level(0), 50);
        Due.same("level(9)", x.level(9), 0);
        Due.same("level(10)", x.level(10), -1);
        x.set(1, 2);
        x.set(0, 3);
        Due.same("level(1)", x.level(1), 75);
        Due.same("held: level(2)", x.level(2), 100);
    }

    private static void mixing() {
        Due.sentence("MIXING: HIGH by 2 for 0 STEPS; for k STEPS SHARE times the mean, cut, of what 0, 1, .. k less 1 STEPS hold, cut");
        holds(3, 100, 2, 3, 50, 33, 27, 24, 22, 20, 19, 18, 17, 16);
        holds(3, 1, 20, 1, 0, 0, 0, 0, 0, 0, 0, 0, 0, 0);
        holds(3, 100, 0, 1, 50, 0, 0, 0);
        holds(3, 100, 20, 20, 50, 50, 50, 50, 50, 50, 50, 50, 50, 50);
        holds(3, 1000, 10, 9, 500, 555, 585, 606, 623);
        // 5 7 9 (3 by 2 of 6) then 7 (21 by 3): 10, held to 10; 31 by 4 is 7.
        holds(3, 10, 3, 2, 5, 7, 9, 10, 10);
        holds(3, 10, 20, 1, 5, 10, 10, 10);
    }

    private static void endedAndJoking() {
        Due.sentence("ENDED: 0, if UP is DOWN or less, else HIGH");
        holds(4, 100, 0, 1, 0);
        holds(4, 100, 1, 2, 0);
        holds(4, 100, 19, 20, 0);
        holds(4, 100, 20, 20, 0, 0);
        holds(4, 100, 1, 1, 0);
        holds(4, 100, 2, 1, 100);
        holds(4, 100, 20, 19, 100, 100);
        holds(4, 1, 20, 1, 1);
        holds(4, 1000, 20, 1, 1000);
        Due.sentence("JOKING: HIGH");
        holds(5, 1, 0, 1, 1, 1);
        holds(5, 1000, 20, 1, 1000, 1000);
    }

    private static void learning() {
        Due.sentence("LEARNING: without a last ROUND as STEPPING");
        holds(6, 100, 2, 3, 50, 33, 22, 14, 9, 6, 4, 2, 1, 0);
        holds(6, 1, 20, 1, 0, 0);
        holds(6, 100, 2, 1, 50, 100, 100);
        Due.sentence("LEARNING: else for k STEPS (0 counts as 1) k times over SHARE times what there was, begun with the MEAN, cut, cut each time");
        TwoThirds x = Due.with("p6 0 0;p5 0 0;p5 0 0;", 3);
        x.round();
        // 50 100 100: 250 by 3 is 83, cut; its thirds twice, again and again: 55 36 24 16 10 6 4 2 1.
        int[] due = {55, 55, 36, 24, 16, 10, 6, 4, 2, 1};
        for (int k = 0; k < 10; k++) {
            x.steps(0, k);
            Due.same("learning by " + k + " steps", x.holds(0), due[k]);
        }
        x.anew();
        Due.same("anew: as stepping", x.holds(0), 0);
        x.steps(0, 0);
        Due.same("anew: as stepping", x.holds(0), 50);
        TwoThirds y = Due.with("g20/1;p6 0 0;p4 0 0;", 3);
        y.round();
        Due.same("held to high", y.holds(0), 100);
        TwoThirds nought = Due.with("g0/1;p6 9 0;p5 0 0;", 3);
        nought.round();
        Due.same("share 0", nought.holds(0), 0);
        TwoThirds cut = Due.with("h3;g1/1;p5 0 0;p5 0 0;p4 0 0;p6 1 0;", 6);
        cut.round();
        // 3 3 0 1: 7 by 4 is 1, cut.
        Due.same("the mean is cut", cut.holds(3), 1);
    }

    private static void aheadOfSlips() {
        Due.sentence("each number that is reckoned is cut and held to 0 .. HIGH at once; ahead of SLIPS");
        // 20 times 50 is held to 100 ahead of a slip of -20.
        Due.same("stepping", cardBy("g20/1;p2 1 20;", 0), 80);
        Due.same("mixing", cardBy("g20/1;p3 1 20;", 0), 80);
        Due.same("joking", cardBy("p5 0 20;", 0), 80);
        Due.same("ended", cardBy("p4 0 20;", 40), 20);
        TwoThirds x = Due.with("g20/1;p6 1 20;", 2);
        x.round();
        x.set(4, Due.zAheadOf(0));
        x.round();
        Due.same("learning", x.of(0, 3), 80);
    }

    // ---- draws

    /** The card of the first of a crowd, when the first draw is of z. */
    private static int cardOfZ(String text, int z) {
        TwoThirds x = Due.with(text, text.chars().filter(sign -> sign == ';').count());
        x.set(4, Due.zAheadOf(z));
        Due.same("round()", x.round(), 1);
        return x.of(0, 3);
    }

    private static int cardBy(String text, int drawn) {
        return cardOfZ(text, drawn << 16);
    }

    private static void draws() {
        wrapAround();
        signsBit();
        modulo();
        drawsByNumbers();
        noDraw();
    }

    private static void wrapAround() {
        Due.sentence("z (1 at first) becomes z times 1103515245 plus 12345 (an int)");
        TwoThirds first = Due.with("p1 0 0;", 1);
        Due.same("z", Due.zOf(first), 1);
        first.round();
        Due.same("z", Due.zOf(first), 1103527590);
        Due.same("card: 16838 modulo 101", first.of(0, 3), 72);
        int[] all = {0, 1, 2, -1, 65535, 65536, 12345, Integer.MAX_VALUE, Integer.MIN_VALUE, Integer.MIN_VALUE + 1, 1103515245};
        for (int z : all) {
            TwoThirds x = Due.with("p1 0 0;", 1);
            x.set(4, z);
            x.round();
            java.math.BigInteger due = java.math.BigInteger.valueOf(z).multiply(java.math.BigInteger.valueOf(1103515245));
            int dueZ = due.add(java.math.BigInteger.valueOf(12345)).intValue();
            Due.same("z behind " + z, Due.zOf(x), dueZ);
            Due.same("card by " + z, x.of(0, 3), ((dueZ & 0xFFFFFFFFL) % (1L << 31)) / 65536 % 101);
        }
    }

    private static void signsBit() {
        Due.sentence("z without its sign's bit over 65536, cut");
        Due.same("the sign's bit alone", cardOfZ("h1000;p1 0 0;", SIGN), 0);
        Due.same("all bits", cardOfZ("h1000;p1 0 0;", -1), 32767 % 1001);
        Due.same("all but the sign's", cardOfZ("h1000;p1 0 0;", Integer.MAX_VALUE), 32767 % 1001);
        Due.same("65535", cardOfZ("h1000;p1 0 0;", 65535), 0);
        Due.same("65536", cardOfZ("h1000;p1 0 0;", 65536), 1);
        Due.same("131071", cardOfZ("h1000;p1 0 0;", 131071), 1);
        Due.same("65536 with the sign's bit", cardOfZ("h1000;p1 0 0;", SIGN + 65536), 1);
        Due.same("65535 with the sign's bit", cardOfZ("h1000;p1 0 0;", SIGN + 65535), 0);
    }

    private static void modulo() {
        Due.sentence("NOUGHTH: a DRAW below HIGH and 1");
        int[][] all = {
            {1, 0, 0}, {1, 1, 1}, {1, 2, 0}, {1, 32767, 1},
            {100, 99, 99}, {100, 100, 100}, {100, 101, 0}, {100, 202, 0}, {100, 201, 100}, {100, 32767, 43},
            {1000, 999, 999}, {1000, 1000, 1000}, {1000, 1001, 0}, {1000, 32767, 735},
        };
        for (int[] one : all) {
            Due.same("high " + one[0] + ", drawn " + one[1], cardBy("h" + one[0] + ";p1 9 0;", one[1]), one[2]);
        }
        Due.sentence("WRONG: a NOUGHTH's, by 2, and HIGH by 2, cut each");
        int[][] wrong = {
            {1, 0, 0}, {1, 1, 0}, {2, 1, 1}, {2, 2, 2}, {2, 3, 1}, {99, 0, 49}, {99, 1, 49}, {99, 2, 50}, {99, 99, 98},
            {99, 100, 49}, {100, 99, 99}, {100, 100, 100}, {100, 101, 50}, {1000, 1000, 1000}, {1000, 1001, 500},
        };
        for (int[] one : wrong) {
            Due.same("high " + one[0] + ", drawn " + one[1], cardBy("h" + one[0] + ";p7 9 0;", one[1]), one[2]);
        }
    }

    private static int next(int z) {
        return z * 1103515245 + 12345;
    }

    private static int drawn(int z, int below) {
        return (z >>> 16 & 0x7FFF) % below;
    }

    private static void drawsByNumbers() {
        Due.sentence("all PEOPLE by numbers write CARDS; NOUGHTH, WRONG: by a DRAW, and a DRAW below twice SLIP and 1");
        TwoThirds x = Due.with("p1 0 20;p7 0 1;p1 0 0;p0 0 2;", 4);
        for (int start : new int[] {0, -1, 5, Integer.MAX_VALUE}) {
            x.set(4, start);
            x.round();
            int[] z = new int[7];
            z[0] = start;
            for (int i = 1; i < 7; i++) {
                z[i] = next(z[i - 1]);
            }
            Due.same("two draws", x.of(0, 3), held(drawn(z[1], 101) + drawn(z[2], 41) - 20, 100));
            Due.same("two draws", x.of(1, 3), held(drawn(z[3], 101) / 2 + 50 + drawn(z[4], 3) - 1, 100));
            Due.same("one draw", x.of(2, 3), drawn(z[5], 101));
            Due.same("one draw", x.of(3, 3), 50 + drawn(z[6], 5) - 2);
            Due.same("six draws in all", Due.zOf(x), z[6]);
        }
    }

    private static int held(int card, int high) {
        return card < 0 ? 0 : card > high ? high : card;
    }

    private static void noDraw() {
        Due.sentence("no DRAW with SLIP 0");
        TwoThirds x = Due.with("p0 9 0;p2 9 0;p3 9 0;p4 9 0;p5 9 0;p6 9 0;", 6);
        x.set(4, -77);
        x.round();
        x.round();
        Due.same("z is as it was", Due.zOf(x), -77);
        for (int kind = 0; kind < 8; kind++) {
            TwoThirds y = Due.with("p" + kind + " 1 1;", 1);
            y.round();
            boolean twice = kind == 1 || kind == 7;
            Due.same("slip 1, kind " + kind, Due.zOf(y), twice ? next(next(1)) : next(1));
            TwoThirds none = Due.with("p" + kind + " 1 0;", 1);
            none.round();
            Due.same("slip 0, kind " + kind, Due.zOf(none), twice ? next(1) : 1);
        }
    }

    // ---- cards

    private static void cards() {
        Due.sentence("A CARD: what it HOLDS, and a DRAW below twice SLIP and 1, less SLIP");
        int[][] all = {
            {1, 0, 49}, {1, 1, 50}, {1, 2, 51}, {1, 3, 49}, {1, 5, 51}, {2, 0, 48}, {2, 4, 52}, {2, 5, 48},
            {20, 0, 30}, {20, 20, 50}, {20, 40, 70}, {20, 41, 30}, {20, 81, 70}, {20, 82, 30}, {20, 32767, 38},
        };
        for (int[] one : all) {
            Due.same("slip " + one[0] + ", drawn " + one[1], cardBy("p0 0 " + one[0] + ";", one[1]), one[2]);
        }
        Due.sentence("A CARD is held to 0 .. HIGH");
        Due.same("20 less 20", cardBy("h40;p0 0 20;", 0), 0);
        Due.same("20 and 20", cardBy("h40;p0 0 20;", 40), 40);
        Due.same("19 less 20", cardBy("h39;p0 0 20;", 0), 0);
        Due.same("19 and 20", cardBy("h39;p0 0 20;", 40), 39);
        Due.same("18 less 20", cardBy("h37;p0 0 20;", 0), 0);
        Due.same("18 and 20", cardBy("h37;p0 0 20;", 40), 37);
        Due.same("0 less 20", cardBy("h1;p0 0 20;", 0), 0);
        Due.same("0 and 20", cardBy("h1;p0 0 20;", 40), 1);
        Due.same("0 and 1", cardBy("h1;p0 0 20;", 21), 1);
        Due.same("0 less 1", cardBy("h1;p0 0 20;", 19), 0);
        Due.same("high and 1", cardBy("p5 0 1;", 2), 100);
        Due.same("high less 1", cardBy("p5 0 1;", 0), 99);
        Due.same("high and 20", cardBy("h1000;p5 0 20;", 40), 1000);
        Due.same("nought and 1", cardBy("p4 0 1;", 2), 1);
        Due.same("nought less 1", cardBy("p4 0 1;", 0), 0);
    }

    // ---- rounds

    private static void rounds() {
        Due.sentence("A ROUND: all PEOPLE write CARDS by what was so ahead");
        TwoThirds x = Due.with("p6 1 0;p5 0 0;p0 0 0;p6 1 0;", 4);
        x.round();
        // 33 100 50 33: 216 by 4 is 54, two thirds 36.
        x.round();
        Due.same("the first", x.of(0, 3), 36);
        Due.same("the last", x.of(3, 3), 36);
        Due.same("the sum", x.last(0), 222);
        Due.sentence("ROUNDS 0 .. 99");
        TwoThirds y = Due.with("p0 0 0;", 1);
        Due.same("count(1)", y.count(1), 0);
        for (int i = 1; i <= 99; i++) {
            Due.same("round()", y.round(), i);
        }
        Due.same("count(1)", y.count(1), 99);
        Due.same("round()", y.round(), -2);
        Due.same("round() again", y.round(), -2);
        Due.same("count(1)", y.count(1), 99);
        Due.same("the last stays", y.last(0), 50);
        y.image();
        Due.same("anew()", y.anew(), 1);
        Due.same("round()", y.round(), 1);
        y.restore();
        Due.same("as it was then", y.round(), -2);
    }

    // ---- depths

    private static void depths() {
        Due.sentence("DEPTH of a person");
        int[][] all = {
            // kind, steps, slip, depth
            {0, 0, 0, 1}, {0, 9, 20, 1}, {1, 9, 0, 1}, {1, 0, 1, 2}, {1, 9, 20, 21}, {2, 0, 20, 1}, {2, 1, 0, 11},
            {2, 9, 20, 91}, {3, 0, 20, 2}, {3, 1, 0, 22}, {3, 9, 20, 182}, {4, 0, 0, 91}, {4, 9, 20, 91},
            {5, 9, 0, 1}, {5, 0, 1, 0}, {5, 0, 2, -1}, {5, 0, 20, -19}, {6, 0, 20, 6}, {6, 1, 0, 16}, {6, 9, 20, 96},
            {7, 9, 0, 0}, {7, 0, 1, 1}, {7, 0, 2, 1}, {7, 0, 3, 2}, {7, 9, 19, 10}, {7, 9, 20, 10},
        };
        for (int[] one : all) {
            TwoThirds x = Due.with("p" + one[0] + " " + one[1] + " " + one[2] + ";", 1);
            Due.same("keep(0, 1, 0)", x.keep(0, 1, 0), 0);
            Due.same("depth of " + one[0] + " " + one[1] + " " + one[2], x.depth(0), one[3]);
        }
    }

    // ---- shelves

    private static void shelves() {
        Due.sentence("SHELVES 0 .. 7 each hold nothing (at first)");
        TwoThirds x = Due.with("p2 1 0;", 1);
        for (int d = 0; d < 8; d++) {
            Due.same("depth(" + d + ")", x.depth(d), -1000000011);
            Due.same("toss(" + d + ")", x.toss(d), -11);
            Due.same("put(" + d + ", 0, 0)", x.put(d, 0, 0), -11);
            Due.same("keep(" + d + ", 1, 0)", x.keep(d, 1, 0), 0);
            Due.same("depth(" + d + ")", x.depth(d), 11);
            Due.same("the next one holds nothing", x.depth(d + 1), d == 7 ? -1000000001 : -1000000011);
            Due.same("row(" + d + ", 0, 1)", x.row(d, 0, 1), 0);
            Due.same("put(" + d + ", 0, 7)", x.put(d, 0, d), 0);
        }
        for (int d = 0; d < 8; d++) {
            Due.sameText("element(" + d + ", 0)", Due.elementOrThrow(x, d, 0), Integer.toString(d));
            Due.same("keep(" + d + ", 0, 0)", x.keep(d, 0, 0), 0);
            Due.same("depth(" + d + ")", x.depth(d), -1000000011);
        }
        sorts();
        elements();
        lowestBits();
    }

    private static void sorts() {
        Due.sentence("A ROW has a SORT (0 bytes, 1 shorts, 2 ints)");
        TwoThirds x = new TwoThirds();
        Due.same("row(0, -1, 1)", x.row(0, -1, 1), -1);
        Due.same("row(0, 3, 1)", x.row(0, 3, 1), -1);
        String[] due = {"-128", "-32640", "32896"};
        for (int sort = 0; sort < 3; sort++) {
            Due.fill(x, 0, sort, 0x8080);
            Due.sameText("sort " + sort, Due.elementOrThrow(x, 0, 0), due[sort]);
        }
    }

    private static void elements() {
        Due.sentence("0 .. 100 elements, 0 at first");
        for (int sort = 0; sort < 3; sort++) {
            TwoThirds x = new TwoThirds();
            Due.same("row(0, sort, 101)", x.row(0, sort, 101), -1);
            Due.same("nothing is held", x.put(0, 0, 0), -11);
            Due.same("row(0, sort, 100)", x.row(0, sort, 100), 0);
            for (int i = 0; i < 100; i++) {
                Due.sameText("element(0, " + i + ")", Due.elementOrThrow(x, 0, i), "0");
                Due.same("put", x.put(0, i, i + 1), 0);
            }
            Due.sameText("the last", Due.elementOrThrow(x, 0, 99), "100");
            Due.sameText("beyond", Due.elementOrThrow(x, 0, 100), "java.lang.IllegalStateException");
            Due.same("put beyond", x.put(0, 100, 1), -13);
            Due.same("row(0, sort, 0)", x.row(0, sort, 0), 0);
            Due.sameText("of none", Due.elementOrThrow(x, 0, 0), "java.lang.IllegalStateException");
            Due.same("put in one of none", x.put(0, 0, 1), -13);
            Due.same("a new one", x.row(0, sort, 100), 0);
            for (int i = 0; i < 100; i++) {
                Due.sameText("0 at first, element " + i, Due.elementOrThrow(x, 0, i), "0");
            }
        }
    }

    private static void lowestBits() {
        Due.sentence("what is put in keeps its lowest bits");
        int[] values = {
            127, 128, 255, 256, 257, -128, -129, -256, 32767, 32768, 65535, 65536, 65537, -32768, -32769, -65536,
            Integer.MAX_VALUE, Integer.MIN_VALUE,
        };
        int[] bytes = {127, -128, -1, 0, 1, -128, 127, 0, -1, 0, -1, 0, 1, 0, -1, 0, -1, 0};
        int[] shorts = {
            127, 128, 255, 256, 257, -128, -129, -256, 32767, -32768, -1, 0, 1, -32768, 32767, 0, -1, 0,
        };
        for (int i = 0; i < values.length; i++) {
            TwoThirds x = new TwoThirds();
            Due.fill(x, 0, Due.BYTES, values[i]);
            Due.fill(x, 1, Due.SHORTS, values[i]);
            Due.fill(x, 2, Due.INTS, values[i]);
            Due.sameText("a byte of " + values[i], Due.elementOrThrow(x, 0, 0), Integer.toString(bytes[i]));
            Due.sameText("a short of " + values[i], Due.elementOrThrow(x, 1, 0), Integer.toString(shorts[i]));
            Due.sameText("an int of " + values[i], Due.elementOrThrow(x, 2, 0), Integer.toString(values[i]));
        }
    }
}
