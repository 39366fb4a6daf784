/**
 * The refusals of each call, in their order, the last numbers that are let in, and that neither a refused call nor
 * one that only tells changes anything.
 */
public final class BoundaryCallsTest {
    private static final int MIN = Integer.MIN_VALUE;
    private static final int MAX = Integer.MAX_VALUE;
    private static final long LESS = -1000000000L;
    private static final long LESS_OF_LONGS = -4000000000000000000L;
    private static final int NO_SHELF = 1;
    private static final int NO_PLACE = 2;

    /** What the shelves of each world hold. */
    private static final int TEXT = 0;
    private static final int PERSON = 1;
    private static final int CARDS = 2;
    private static final int MORE_CARDS = 3;
    private static final int WORDS = 4;
    private static final int EMPTY = 5;
    private static final int NOTHING = 6;
    private static final int NO_CARDS = 7;

    private interface Call {
        long on(TwoThirds x);
    }

    /** A way to make the same object again and again. */
    private enum World {
        /** One person, no image. */
        NEW,
        /** All kinds, no round, an image of an earlier time. */
        READY,
        /** Two rounds, by BELOW, an image of an earlier time. */
        PLAYED,
        /** 99 rounds. */
        LATE,
        /** Twelve people. */
        FULL;

        private String seen;

        TwoThirds make() {
            TwoThirds x = new TwoThirds();
            switch (this) {
                case READY:
                case PLAYED:
                    Due.crowd(x, "p0 0 0;p1 3 2;p2 1 0;p3 2 1;p4 1 0;p5 1 3;p6 2 0;p7 1 1;", 8);
                    Due.same("image()", x.image(), 8);
                    Due.same("steps(2, 4)", x.steps(2, 4), 1);
                    Due.same("set(4, 77)", x.set(4, 77), 1);
                    break;
                case LATE:
                    Due.crowd(x, "p0 0 0;p1 2 3;", 2);
                    break;
                case FULL:
                    Due.crowd(x, "p2 1 0;".repeat(12), 12);
                    break;
                default:
                    break;
            }
            shelves(x);
            if (this == PLAYED) {
                Due.same("set(3, 1)", x.set(3, 1), 0);
            }
            for (int i = 1; i <= (this == PLAYED ? 2 : this == LATE ? 99 : 0); i++) {
                Due.same("round()", x.round(), i);
            }
            return x;
        }

        private void shelves(TwoThirds x) {
            Due.write(x, TEXT, "b;p0 1 2;");
            if (this == NEW) {
                Due.crowd(x, "p2 1 0;", 1);
                Due.same("keep", x.keep(PERSON, 1, 0), 0);
            } else {
                Due.same("keep", x.keep(PERSON, 1, 1), 0);
            }
            Due.fill(x, CARDS, Due.SHORTS, 100, 50, 0);
            Due.fill(x, MORE_CARDS, Due.INTS, 50, 33);
            Due.fill(x, WORDS, Due.BYTES, 0, 1, 9);
            Due.fill(x, EMPTY, Due.BYTES);
            Due.fill(x, NO_CARDS, Due.INTS, 5, 101);
        }

        /** What is seen of one that nobody asked anything. */
        String seen() {
            if (seen == null) {
                seen = Seen.everything(make());
            }
            return seen;
        }
    }

    private static World world = World.READY;

    public static void main(String[] args) {
        crowd();
        of();
        set();
        steps();
        holds();
        round();
        last();
        target();
        wins();
        mean();
        winners();
        best();
        level();
        stepsOf();
        shares();
        words();
        ahead();
        worth();
        jokers();
        differ();
        judge();
        ends();
        parts();
        restore();
        count();
        keep();
        row();
        put();
        element();
        copy();
        depth();
        toss();
        tellingChangesNothing();
        changesOneThing();
        restoredOverOthers();
        lastCall();
        Due.end("BoundaryCallsTest");
    }

    /** Answers as due, and all that can be seen is as if it had not been asked. */
    private static void same(String name, long due, Call call) {
        TwoThirds x = world.make();
        Due.same(world + ": " + name, call.on(x), due);
        Due.sameText(world + ": what is seen behind " + name, Seen.everything(x), world.seen());
    }

    /** A call that may change things. */
    private static void done(String name, long due, Call call) {
        Due.same(world + ": " + name, call.on(world.make()), due);
    }

    /** What is refused for a shelf that isn't there. */
    private static void noShelf(String name, long due, java.util.function.IntFunction<Call> call) {
        for (int d : new int[] {-1, 8, MIN, MAX}) {
            same(name + " of shelf " + d, due, call.apply(d));
        }
    }

    /** The refusals of calls that read a row of cards, as they are told: -11, -12, -13. */
    private static void noCards(String name, long less, java.util.function.IntFunction<Call> call) {
        same(name + " of nothing", less - 11, call.apply(NOTHING));
        same(name + " of a person", less - 12, call.apply(PERSON));
        same(name + " of no cards", less - 13, call.apply(NO_CARDS));
        same(name + " of a text", less - 13, call.apply(TEXT));
        same(name + " of none", less - 13, call.apply(EMPTY));
    }

    // ---- crowds

    private static void crowd() {
        Due.sentence("crowd: -1, -11, -12 (no ROW of bytes); the FAULT");
        for (World one : new World[] {World.NEW, World.READY, World.PLAYED, World.FULL}) {
            world = one;
            noShelf("crowd", -1, d -> x -> x.crowd(d));
            same("crowd of nothing", -11, x -> x.crowd(NOTHING));
            same("crowd of a person", -12, x -> x.crowd(PERSON));
            same("crowd of shorts", -12, x -> x.crowd(CARDS));
            same("crowd of ints", -12, x -> x.crowd(MORE_CARDS));
            same("crowd of none", -1000, x -> x.crowd(EMPTY));
            same("crowd of words", -1000, x -> x.crowd(WORDS));
        }
        world = World.NEW;
        done("crowd", 2, x -> x.crowd(TEXT));
        world = World.READY;
        done("crowd", 2, x -> x.crowd(TEXT));
        world = World.PLAYED;
        same("crowd behind a round", -2000, x -> x.crowd(TEXT));
        world = World.LATE;
        same("crowd behind 99 rounds", -2000, x -> x.crowd(TEXT));
        world = World.FULL;
        same("crowd without room", -2002, x -> x.crowd(TEXT));
    }

    private static void of() {
        Due.sentence("of: -1; 3 its CARD of the last ROUND (-4: none)");
        world = World.READY;
        for (int person : new int[] {-1, 8, 12, MIN, MAX}) {
            for (int what = 0; what < 4; what++) {
                int asked = what;
                same("of(" + person + ", " + what + ")", -1, x -> x.of(person, asked));
            }
        }
        for (int what : new int[] {-1, 4, MIN, MAX}) {
            same("of(0, " + what + ")", -1, x -> x.of(0, what));
        }
        same("of(0, 0)", 0, x -> x.of(0, 0));
        same("of(7, 0)", 7, x -> x.of(7, 0));
        same("of(1, 1)", 3, x -> x.of(1, 1));
        same("of(1, 2)", 2, x -> x.of(1, 2));
        same("of(0, 3)", -4, x -> x.of(0, 3));
        same("of(7, 3)", -4, x -> x.of(7, 3));
        world = World.PLAYED;
        same("of(0, 3)", 50, x -> x.of(0, 3));
        same("of(8, 3)", -1, x -> x.of(8, 3));
        same("of(0, 4)", -1, x -> x.of(0, 4));
        world = World.NEW;
        same("of(1, 0)", -1, x -> x.of(1, 0));
        world = World.FULL;
        same("of(11, 0)", 2, x -> x.of(11, 0));
        same("of(12, 0)", -1, x -> x.of(12, 0));
    }

    private static void set() {
        int[][] ranges = {{0, 0, 20, 2}, {1, 1, 20, 3}, {2, 1, 1000, 100}, {3, 0, 1, 0}};
        for (World one : new World[] {World.READY, World.PLAYED}) {
            Due.sentence("set: -1; -3: (0 .. 3) a ROUND was");
            world = one;
            for (int[] range : ranges) {
                String name = "set(" + range[0] + ", ";
                for (int n : new int[] {range[1] - 1, range[2] + 1, MIN, MAX}) {
                    same(name + n + ")", -1, x -> x.set(range[0], n));
                }
                for (int n : new int[] {range[1], range[2], range[3]}) {
                    if (one == World.PLAYED) {
                        same(name + n + ")", -3, x -> x.set(range[0], n));
                    } else {
                        done(name + n + ")", range[3], x -> x.set(range[0], n));
                    }
                }
            }
            for (int what : new int[] {-1, 5, MIN, MAX}) {
                same("set(" + what + ", 1)", -1, x -> x.set(what, 1));
            }
        }
        Due.sentence("set: z (4: any): what it was (z as it is)");
        world = World.READY;
        for (int z : new int[] {0, 1, -1, -3, -4, MIN, MAX, -1000000001}) {
            done("set(4, " + z + ")", 77, x -> x.set(4, z));
            done("set(4, 5) behind set(4, " + z + ")", z, x -> {
                x.set(4, z);
                return x.set(4, 5);
            });
        }
        world = World.PLAYED;
        done("set(4, 5) behind rounds and set(4, -3)", -3, x -> {
            x.set(4, -3);
            return x.set(4, 5);
        });
        world = World.LATE;
        same("set(0, 2)", -3, x -> x.set(0, 2));
        Due.sentence("set: -3: a ROUND was, one alone");
        TwoThirds once = Due.with("p0 0 0;", 1);
        once.round();
        for (int[] range : ranges) {
            Due.same("set(" + range[0] + ", ..)", once.set(range[0], range[1]), -3);
            Due.same("set(" + range[0] + ", as it is)", once.set(range[0], range[3]), -3);
        }
        Due.sentence("set: behind anew it is as ahead of a ROUND");
        world = World.PLAYED;
        for (int[] range : ranges) {
            done("set(" + range[0] + ", ..)", range[0] == 3 ? 1 : range[3], x -> {
                x.anew();
                return x.set(range[0], range[1]);
            });
        }
    }

    private static void steps() {
        Due.sentence("steps: STEPS of a person: what they were. -1");
        for (World one : new World[] {World.READY, World.PLAYED}) {
            world = one;
            for (int person : new int[] {-1, 8, 12, MIN, MAX}) {
                same("steps(" + person + ", 0)", -1, x -> x.steps(person, 0));
                same("steps(" + person + ", 10)", -1, x -> x.steps(person, 10));
            }
            for (int n : new int[] {-1, 10, MIN, MAX}) {
                same("steps(0, " + n + ")", -1, x -> x.steps(0, n));
            }
            done("steps(1, 0)", 3, x -> x.steps(1, 0));
            done("steps(1, 9)", 3, x -> x.steps(1, 9));
            done("steps(7, 9) twice", 9, x -> {
                x.steps(7, 9);
                return x.steps(7, 9);
            });
            same("steps(7, 1)", 1, x -> x.steps(7, 1));
        }
        world = World.NEW;
        same("steps(1, 0)", -1, x -> x.steps(1, 0));
        world = World.FULL;
        same("steps(11, 1)", 1, x -> x.steps(11, 1));
        same("steps(12, 1)", -1, x -> x.steps(12, 1));
    }

    // ---- rounds

    private static void holds() {
        Due.sentence("holds: -1; -3: NOUGHTH, WRONG");
        for (World one : new World[] {World.READY, World.PLAYED}) {
            world = one;
            for (int person : new int[] {-1, 8, 12, MIN, MAX}) {
                same("holds(" + person + ")", -1, x -> x.holds(person));
            }
            same("holds(1)", -3, x -> x.holds(1));
            same("holds(7)", -3, x -> x.holds(7));
            same("holds(0)", 50, x -> x.holds(0));
            same("holds(2)", 9, x -> x.holds(2));
            same("holds(3)", 27, x -> x.holds(3));
            same("holds(4)", 0, x -> x.holds(4));
            same("holds(5)", 100, x -> x.holds(5));
        }
        world = World.READY;
        same("holds(6)", 22, x -> x.holds(6));
    }

    private static void round() {
        Due.sentence("round: -2: beyond 99; -3: no PEOPLE");
        Due.same("nobody", new TwoThirds().round(), -3);
        TwoThirds nobody = new TwoThirds();
        Due.crowd(nobody, "b;", 1);
        Due.same("nobody", nobody.round(), -3);
        Due.same("no round was", nobody.count(1), 0);
        Due.crowd(nobody, "p0 0 0;", 1);
        Due.same("somebody", nobody.round(), 1);
        world = World.LATE;
        same("round()", -2, x -> x.round());
        same("round() twice", -2, x -> {
            x.round();
            return x.round();
        });
        done("round() behind anew()", 1, x -> {
            x.anew();
            return x.round();
        });
        world = World.PLAYED;
        done("round()", 3, x -> x.round());
        Due.sentence("anew: All begin anew (no ROUND; z stays): how many PEOPLE");
        Due.same("nobody", new TwoThirds().anew(), 0);
        world = World.READY;
        same("anew()", 8, x -> x.anew());
        world = World.FULL;
        same("anew()", 12, x -> x.anew());
        world = World.LATE;
        TwoThirds late = world.make();
        int z = Due.zOf(late);
        Due.same("anew()", late.anew(), 2);
        Due.same("z stays", Due.zOf(late), z);
        Due.same("no ROUND", late.count(1), 0);
        Due.same("no CARD", late.of(0, 3), -4);
        Due.same("no last ROUND", late.last(0), -3);
        Due.same("no last ROUND", late.target(0), -3);
        Due.same("no last ROUND", late.judge(CARDS), -3);
    }

    private static void last() {
        Due.sentence("last: -1; -3: none was; -4: nobody");
        for (World one : World.values()) {
            world = one;
            for (int what : new int[] {-1, 3, MIN, MAX}) {
                same("last(" + what + ")", -1, x -> x.last(what));
            }
        }
        for (World one : new World[] {World.NEW, World.READY, World.FULL}) {
            world = one;
            for (int what = 0; what < 3; what++) {
                int asked = what;
                same("last(" + what + ")", -3, x -> x.last(asked));
            }
        }
    }

    private static void target() {
        Due.sentence("target: -1; -3");
        for (World one : World.values()) {
            world = one;
            for (int part : new int[] {-1, 2, MIN, MAX}) {
                same("target(" + part + ")", -1, x -> x.target(part));
            }
        }
        for (World one : new World[] {World.NEW, World.READY, World.FULL}) {
            world = one;
            same("target(0)", -3, x -> x.target(0));
            same("target(1)", -3, x -> x.target(1));
        }
    }

    private static void wins() {
        Due.sentence("wins: in how many of n ROUNDS (1 .. 20) more a person wins (in mind). -1");
        for (World one : new World[] {World.READY, World.PLAYED}) {
            world = one;
            for (int person : new int[] {-1, 8, 12, MIN, MAX}) {
                same("wins(" + person + ", 1)", -1, x -> x.wins(person, 1));
            }
            for (int n : new int[] {0, -1, 21, MIN, MAX}) {
                same("wins(0, " + n + ")", -1, x -> x.wins(0, n));
            }
            same("wins(8, 0)", -1, x -> x.wins(8, 0));
        }
        world = World.FULL;
        same("wins(11, 1)", 1, x -> x.wins(11, 1));
        same("wins(11, 20)", 20, x -> x.wins(11, 20));
        same("wins(12, 20)", -1, x -> x.wins(12, 20));
        world = World.NEW;
        same("wins(1, 1)", -1, x -> x.wins(1, 1));
        Due.same("nobody", new TwoThirds().wins(0, 1), -1);
        TwoThirds late = Due.with("p0 0 0;p2 1 0;", 2);
        for (int i = 1; i <= 90; i++) {
            late.round();
        }
        Due.same("in mind rounds go on beyond 99", late.wins(1, 20), 20);
        Due.same("count(1)", late.count(1), 90);
        winsByTurns();
    }

    private static void winsByTurns() {
        TwoThirds x = Due.with("p6 1 0;p2 2 0;p5 0 0;", 3);
        // 33 22 100, then 34 (of 51) 22 100, 34 (of 52) and so on: two thirds of 155 by 3 are 34, of 156 by 3 too.
        Due.same("wins(0, 1)", x.wins(0, 1), 1);
        Due.same("wins(0, 20)", x.wins(0, 20), 20);
        Due.same("wins(1, 20)", x.wins(1, 20), 0);
        Due.same("wins(2, 20)", x.wins(2, 20), 0);
        TwoThirds one = Due.with("h1;p1 0 0;p4 0 0;p4 0 0;", 4);
        // Two thirds of a third or of nought: who writes 0 wins, all of them; a noughth writes 0 or 1.
        int noughts = 0;
        int z = 1;
        for (int n = 1; n <= 20; n++) {
            z = z * 1103515245 + 12345;
            noughts += (z >>> 16) % 2 == 0 ? 1 : 0;
            Due.same("wins(0, " + n + ")", one.wins(0, n), noughts);
            Due.same("wins(1, " + n + ")", one.wins(1, n), n);
        }
        Due.same("in some, not in all", noughts > 0 && noughts < 20 ? 1 : 0, 1);
    }

    // ---- told cards

    private static void mean() {
        Due.sentence("mean: -1, -11, -12 (no ROW), -13");
        for (World one : new World[] {World.READY, World.PLAYED}) {
            world = one;
            noShelf("mean", -1, d -> x -> x.mean(d, 0, 0));
            for (int n : new int[] {-1, 2, MIN, MAX}) {
                for (int d : new int[] {CARDS, NOTHING, PERSON, EMPTY, NO_CARDS, 8}) {
                    same("mean(" + d + ", " + n + ", 0)", -1, x -> x.mean(d, n, 0));
                    same("mean(" + d + ", 1, " + n + ")", -1, x -> x.mean(d, 1, n));
                }
            }
            for (int what = 0; what < 2; what++) {
                int asked = what;
                noCards("mean", 0, d -> x -> x.mean(d, asked, 0));
                noCards("mean", 0, d -> x -> x.mean(d, asked, 1));
            }
            same("mean(2, 0, 0)", 50, x -> x.mean(CARDS, 0, 0));
            same("mean(2, 0, 1)", 1, x -> x.mean(CARDS, 0, 1));
            same("mean(2, 1, 0)", 100, x -> x.mean(CARDS, 1, 0));
            same("mean(2, 1, 1)", 3, x -> x.mean(CARDS, 1, 1));
        }
    }

    private static void winners() {
        Due.sentence("winners: -1, -11, -12, -13; -4");
        world = World.PLAYED;
        noShelf("winners", -1, d -> x -> x.winners(d, 0));
        for (int what : new int[] {-1, 2, MIN, MAX}) {
            for (int d : new int[] {CARDS, NOTHING, PERSON, EMPTY, NO_CARDS}) {
                same("winners(" + d + ", " + what + ")", -1, x -> x.winners(d, what));
            }
        }
        noCards("winners", 0, d -> x -> x.winners(d, 0));
        noCards("winners", 0, d -> x -> x.winners(d, 1));
        same("winners(2, 0)", 1, x -> x.winners(CARDS, 0));
        same("winners(2, 1)", 2, x -> x.winners(CARDS, 1));
        same("winners(3, 0): 83 by 3 is below 33", 0, x -> x.winners(MORE_CARDS, 0));
        same("winners(3, 1)", -4, x -> x.winners(MORE_CARDS, 1));
        world = World.READY;
        same("winners(3, 0)", 1, x -> x.winners(MORE_CARDS, 0));
        same("winners(3, 1)", 1, x -> x.winners(MORE_CARDS, 1));
    }

    private static void best() {
        Due.sentence("best: -1, -11, -12, -13");
        world = World.READY;
        noShelf("best", -1, d -> x -> x.best(d));
        noCards("best", 0, d -> x -> x.best(d));
        // (150 and c) by 6 is c at 30.
        same("best(2)", 30, x -> x.best(CARDS));
        world = World.PLAYED;
        same("best(2)", 30, x -> x.best(CARDS));
    }

    private static void level() {
        Due.sentence("level: k (0 .. 9). -1");
        world = World.READY;
        for (int k : new int[] {-1, 10, MIN, MAX}) {
            same("level(" + k + ")", -1, x -> x.level(k));
        }
        same("level(0)", 50, x -> x.level(0));
        same("level(9)", 0, x -> x.level(9));
    }

    private static void stepsOf() {
        Due.sentence("stepsOf: STEPS of a card. -1");
        world = World.READY;
        for (int card : new int[] {-1, 101, MIN, MAX}) {
            same("stepsOf(" + card + ")", -1, x -> x.stepsOf(card));
        }
        same("stepsOf(0)", 9, x -> x.stepsOf(0));
        same("stepsOf(100)", 0, x -> x.stepsOf(100));
    }

    private static void shares() {
        Due.sentence("shares: -1, -11, -12, -13");
        world = World.READY;
        noShelf("shares", -1, d -> x -> x.shares(d, 0));
        for (int k : new int[] {-1, 10, MIN, MAX}) {
            for (int d : new int[] {CARDS, NOTHING, PERSON, EMPTY, NO_CARDS}) {
                same("shares(" + d + ", " + k + ")", -1, x -> x.shares(d, k));
            }
        }
        noCards("shares", 0, d -> x -> x.shares(d, 0));
        noCards("shares", 0, d -> x -> x.shares(d, 9));
        same("shares(2, 0)", 2, x -> x.shares(CARDS, 0));
        same("shares(2, 9)", 1, x -> x.shares(CARDS, 9));
    }

    private static void words() {
        Due.sentence("words: -1, -11 (either), -12 (d no ROW; e no ROW of bytes), -13 (cards; unlike sizes)");
        world = World.READY;
        noShelf("words in e", -1, d -> x -> x.words(d, WORDS, 0));
        noShelf("words beside d", -1, e -> x -> x.words(CARDS, e, 0));
        noShelf("words in e, d nothing", -1, e -> x -> x.words(NOTHING, e, 0));
        for (int what : new int[] {-1, 2, MIN, MAX}) {
            for (int d : new int[] {CARDS, NOTHING, PERSON, EMPTY, NO_CARDS}) {
                same("words(" + d + ", 4, " + what + ")", -1, x -> x.words(d, WORDS, what));
                same("words(2, " + d + ", " + what + ")", -1, x -> x.words(CARDS, d, what));
            }
        }
        int[][] all = {
            // d, e, the refusal
            {NOTHING, WORDS, -11}, {CARDS, NOTHING, -11}, {NOTHING, NOTHING, -11}, {PERSON, NOTHING, -11},
            {NOTHING, PERSON, -11}, {NO_CARDS, NOTHING, -11}, {NOTHING, CARDS, -11}, {EMPTY, NOTHING, -11},
            {PERSON, WORDS, -12}, {CARDS, PERSON, -12}, {PERSON, PERSON, -12}, {CARDS, CARDS, -12}, {CARDS, MORE_CARDS, -12},
            {NO_CARDS, CARDS, -12}, {NO_CARDS, PERSON, -12}, {EMPTY, MORE_CARDS, -12}, {PERSON, EMPTY, -12},
            {NO_CARDS, WORDS, -13}, {TEXT, TEXT, -13}, {EMPTY, EMPTY, -13}, {EMPTY, WORDS, -13}, {CARDS, EMPTY, -13},
            {MORE_CARDS, WORDS, -13}, {CARDS, TEXT, -13},
        };
        for (int[] one : all) {
            same("words(" + one[0] + ", " + one[1] + ", 0)", one[2], x -> x.words(one[0], one[1], 0));
            same("words(" + one[0] + ", " + one[1] + ", 1)", one[2], x -> x.words(one[0], one[1], 1));
        }
        same("words(2, 4, 0)", 2, x -> x.words(CARDS, WORDS, 0));
        same("words(2, 4, 1)", 1, x -> x.words(CARDS, WORDS, 1));
        same("words(4, 4, 0)", 0, x -> x.words(WORDS, WORDS, 0));
        same("words(4, 4, 1)", 1, x -> x.words(WORDS, WORDS, 1));
    }

    private static void ahead() {
        Due.sentence("ahead: -1, -11, -12, -13");
        world = World.PLAYED;
        noShelf("ahead", -1, d -> x -> x.ahead(d, 1, 1));
        for (int d : new int[] {CARDS, NOTHING, PERSON, EMPTY, NO_CARDS}) {
            for (int up : new int[] {-1, 21, MIN, MAX}) {
                same("ahead(" + d + ", " + up + ", 1)", -1, x -> x.ahead(d, up, 1));
            }
            for (int down : new int[] {-1, 0, 21, MIN, MAX}) {
                same("ahead(" + d + ", 1, " + down + ")", -1, x -> x.ahead(d, 1, down));
            }
        }
        noCards("ahead", 0, d -> x -> x.ahead(d, 0, 20));
        noCards("ahead", 0, d -> x -> x.ahead(d, 20, 1));
        same("ahead(2, 0, 20)", 100, x -> x.ahead(CARDS, 0, 20));
        same("ahead(2, 20, 1)", 200, x -> x.ahead(CARDS, 20, 1));
        same("ahead(2, 2, 3)", 100, x -> x.ahead(CARDS, 2, 3));
    }

    private static void worth() {
        Due.sentence("worth: -4000000000000000001, .. 11, .. 12, .. 13");
        world = World.READY;
        noShelf("worth", LESS_OF_LONGS - 1, d -> x -> x.worth(d, 0));
        for (int k : new int[] {-1, 9, 10, MIN, MAX}) {
            for (int d : new int[] {CARDS, NOTHING, PERSON, EMPTY, NO_CARDS}) {
                same("worth(" + d + ", " + k + ")", LESS_OF_LONGS - 1, x -> x.worth(d, k));
            }
        }
        noCards("worth", LESS_OF_LONGS, d -> x -> x.worth(d, 0));
        noCards("worth", LESS_OF_LONGS, d -> x -> x.worth(d, 8));
        // 100 by 3: 50 is 50 away, 33 is 1; 1 is 97, 0 is 100.
        same("worth(2, 0)", 49, x -> x.worth(CARDS, 0));
        same("worth(2, 8)", -3, x -> x.worth(CARDS, 8));
    }

    private static void jokers() {
        Due.sentence("jokers: -1, -11, -12, -13");
        world = World.READY;
        noShelf("jokers", -1, d -> x -> x.jokers(d, 0));
        for (int part : new int[] {-1, 2, MIN, MAX}) {
            for (int d : new int[] {CARDS, NOTHING, PERSON, EMPTY, NO_CARDS}) {
                same("jokers(" + d + ", " + part + ")", -1, x -> x.jokers(d, part));
            }
        }
        noCards("jokers", 0, d -> x -> x.jokers(d, 0));
        noCards("jokers", 0, d -> x -> x.jokers(d, 1));
        // 100 by 3 less 50 by 3.
        same("jokers(2, 0)", 50, x -> x.jokers(CARDS, 0));
        same("jokers(2, 1)", 3, x -> x.jokers(CARDS, 1));
    }

    private static void differ() {
        Due.sentence("differ: -1, -11 (either), -12, -13");
        world = World.READY;
        noShelf("differ from e", -1, d -> x -> x.differ(d, CARDS));
        noShelf("differ from d", -1, e -> x -> x.differ(CARDS, e));
        noShelf("differ, one nothing", -1, e -> x -> x.differ(NOTHING, e));
        int[][] all = {
            {NOTHING, CARDS, -11}, {NOTHING, NOTHING, -11}, {NOTHING, PERSON, -11}, {NOTHING, NO_CARDS, -11},
            {NOTHING, EMPTY, -11}, {PERSON, CARDS, -12}, {PERSON, PERSON, -12}, {PERSON, NO_CARDS, -12}, {PERSON, EMPTY, -12},
            {NO_CARDS, CARDS, -13}, {EMPTY, CARDS, -13}, {TEXT, CARDS, -13}, {NO_CARDS, NO_CARDS, -13}, {EMPTY, EMPTY, -13},
        };
        for (int[] one : all) {
            same("differ(" + one[0] + ", " + one[1] + ")", one[2], x -> x.differ(one[0], one[1]));
            same("differ(" + one[1] + ", " + one[0] + ")", one[2], x -> x.differ(one[1], one[0]));
        }
        // 100 50 0 are of 0 0 9 steps, 50 33 of 0 1: 4 less 3, 3, 2.
        same("differ(2, 3)", 6, x -> x.differ(CARDS, MORE_CARDS));
        same("differ(3, 2)", 6, x -> x.differ(MORE_CARDS, CARDS));
        same("differ(2, 2)", 0, x -> x.differ(CARDS, CARDS));
    }

    private static void judge() {
        Due.sentence("judge: -4. -1; -3: no ROUND was; -11, -12");
        for (World one : World.values()) {
            world = one;
            noShelf("judge", -1, d -> x -> x.judge(d));
        }
        for (World one : new World[] {World.NEW, World.READY, World.FULL}) {
            world = one;
            for (int d = 0; d < 8; d++) {
                int shelf = d;
                same("judge(" + d + ")", -3, x -> x.judge(shelf));
            }
        }
        for (World one : new World[] {World.PLAYED, World.LATE}) {
            world = one;
            same("judge of nothing", -11, x -> x.judge(NOTHING));
            same("judge of a person", -12, x -> x.judge(PERSON));
            same("judge by none", -4, x -> x.judge(EMPTY));
            same("judge by cards", 0, x -> x.judge(CARDS));
            same("judge by what are no cards", 0, x -> x.judge(NO_CARDS));
        }
    }

    // ---- games, the image, what is told

    private static void ends() {
        Due.sentence("ends: -1");
        world = World.READY;
        for (int what : new int[] {-1, 2, MIN, MAX}) {
            same("ends(" + what + ")", -1, x -> x.ends(what));
        }
        same("ends(0)", 0, x -> x.ends(0));
        same("ends(1)", 9, x -> x.ends(1));
    }

    private static void parts() {
        Due.sentence("parts: -1 (one twice, too); -3: NOUGHTH, WRONG");
        for (World one : new World[] {World.READY, World.PLAYED}) {
            world = one;
            for (int person : new int[] {-1, 8, 12, MIN, MAX}) {
                for (int other : new int[] {0, 1, 7}) {
                    same("parts(" + person + ", " + other + ", 0)", -1, x -> x.parts(person, other, 0));
                    same("parts(" + other + ", " + person + ", 0)", -1, x -> x.parts(other, person, 0));
                }
                same("parts(" + person + ", " + person + ", 0)", -1, x -> x.parts(person, person, 0));
            }
            for (int person = 0; person < 8; person++) {
                int twice = person;
                same("parts(" + person + " twice)", -1, x -> x.parts(twice, twice, 0));
            }
            for (int what : new int[] {-1, 2, MIN, MAX}) {
                same("parts(0, 2, " + what + ")", -1, x -> x.parts(0, 2, what));
                same("parts(1, 2, " + what + ")", -1, x -> x.parts(1, 2, what));
            }
            int[][] byDraw = {{1, 0}, {0, 1}, {7, 0}, {0, 7}, {1, 7}, {7, 1}};
            for (int[] pair : byDraw) {
                same("parts(" + pair[0] + ", " + pair[1] + ", 0)", -3, x -> x.parts(pair[0], pair[1], 0));
                same("parts(" + pair[0] + ", " + pair[1] + ", 1)", -3, x -> x.parts(pair[0], pair[1], 1));
            }
            same("parts(0, 5, 0)", 0, x -> x.parts(0, 5, 0));
            same("parts(0, 5, 1)", 50, x -> x.parts(0, 5, 1));
            same("parts(4, 5, 1)", 100, x -> x.parts(4, 5, 1));
        }
    }

    private static void restore() {
        Due.sentence("restore: -3: there is none");
        world = World.NEW;
        same("restore()", -3, x -> x.restore());
        world = World.LATE;
        same("restore()", -3, x -> x.restore());
        world = World.READY;
        done("restore()", 8, x -> x.restore());
        done("restore() and again", 8, x -> {
            x.restore();
            return x.restore();
        });
    }

    private static void count() {
        Due.sentence("count: -1 for others");
        for (World one : World.values()) {
            world = one;
            for (int what : new int[] {-1, 6, MIN, MAX}) {
                same("count(" + what + ")", -1, x -> x.count(what));
            }
        }
        int[][] due = {{1, 0, 2, 3, 100, 1}, {8, 0, 2, 3, 100, 14}, {8, 2, 2, 3, 100, 14}, {2, 99, 2, 3, 100, 2}, {12, 0, 2, 3, 100, 12}};
        for (World one : World.values()) {
            world = one;
            for (int what = 0; what < 6; what++) {
                int asked = what;
                same("count(" + what + ")", due[one.ordinal()][what], x -> x.count(asked));
            }
        }
    }

    // ---- shelves

    private static void keep() {
        Due.sentence("keep: what = 0 nothing (the others do not matter); 1 person k (as it was then). -1");
        world = World.READY;
        for (int what : new int[] {-1, 0, 1, 2}) {
            noShelf("keep what " + what, -1, d -> x -> x.keep(d, what, 0));
        }
        for (int what : new int[] {-1, 2, MIN, MAX}) {
            for (int d = 0; d < 8; d++) {
                int shelf = d;
                same("keep(" + d + ", " + what + ", 0)", -1, x -> x.keep(shelf, what, 0));
            }
        }
        for (int k : new int[] {-1, 8, 12, MIN, MAX}) {
            same("keep(6, 1, " + k + ")", -1, x -> x.keep(NOTHING, 1, k));
            same("keep(1, 1, " + k + ")", -1, x -> x.keep(PERSON, 1, k));
            same("keep(2, 1, " + k + ")", -1, x -> x.keep(CARDS, 1, k));
            same("keep(6, 0, " + k + ")", 0, x -> x.keep(NOTHING, 0, k));
            done("keep(2, 0, " + k + ") and put", -11, x -> {
                x.keep(CARDS, 0, k);
                return x.put(CARDS, 0, 0);
            });
            done("keep(1, 0, " + k + ") and toss", -11, x -> {
                x.keep(PERSON, 0, k);
                return x.toss(PERSON);
            });
        }
        done("keep(0, 1, 7)", 0, x -> x.keep(0, 1, 7));
        done("keep(7, 1, 0)", 0, x -> x.keep(7, 1, 0));
        same("keep(1, 1, 1), again", 0, x -> x.keep(PERSON, 1, 1));
        done("as it was then: depth", 41, x -> {
            x.keep(NOTHING, 1, 2);
            x.steps(2, 0);
            return x.depth(NOTHING);
        });
        done("as it was then: toss", 2, x -> {
            x.keep(NOTHING, 1, 2);
            x.steps(2, 0);
            return x.toss(NOTHING);
        });
        world = World.FULL;
        same("keep(6, 1, 12)", -1, x -> x.keep(NOTHING, 1, 12));
        done("keep(6, 1, 11) and toss", 11, x -> {
            x.keep(NOTHING, 1, 11);
            return x.toss(NOTHING);
        });
        Due.same("nobody", new TwoThirds().keep(0, 1, 0), -1);
    }

    private static void row() {
        Due.sentence("row: -1 (n above 100); -14");
        world = World.READY;
        for (int n : new int[] {-1, 0, 1, 101}) {
            noShelf("row of " + n, -1, d -> x -> x.row(d, 0, n));
        }
        for (int d = 0; d < 8; d++) {
            int shelf = d;
            for (int sort : new int[] {-1, 3, MIN, MAX}) {
                same("row(" + d + ", " + sort + ", 1)", -1, x -> x.row(shelf, sort, 1));
                same("row(" + d + ", " + sort + ", -1)", -1, x -> x.row(shelf, sort, -1));
                same("row(" + d + ", " + sort + ", 101)", -1, x -> x.row(shelf, sort, 101));
            }
            for (int sort = 0; sort < 3; sort++) {
                int one = sort;
                same("row(" + d + ", " + sort + ", 101)", -1, x -> x.row(shelf, one, 101));
                same("row(" + d + ", " + sort + ", MAX)", -1, x -> x.row(shelf, one, MAX));
                same("row(" + d + ", " + sort + ", -1)", -14, x -> x.row(shelf, one, -1));
                same("row(" + d + ", " + sort + ", MIN)", -14, x -> x.row(shelf, one, MIN));
                done("row(" + d + ", " + sort + ", 0)", 0, x -> x.row(shelf, one, 0));
                done("row(" + d + ", " + sort + ", 100)", 0, x -> x.row(shelf, one, 100));
            }
        }
    }

    private static void put() {
        Due.sentence("put: -1, -11, -12, -13");
        world = World.READY;
        for (int i : new int[] {-1, 0, 100, MIN, MAX}) {
            noShelf("put at " + i, -1, d -> x -> x.put(d, i, 5));
            same("put(6, " + i + ", 5)", -11, x -> x.put(NOTHING, i, 5));
            same("put(1, " + i + ", 5)", -12, x -> x.put(PERSON, i, 5));
            same("put(5, " + i + ", 5)", -13, x -> x.put(EMPTY, i, 5));
        }
        for (int i : new int[] {-1, 3, 4, 99, 100, MIN, MAX}) {
            same("put(2, " + i + ", 5)", -13, x -> x.put(CARDS, i, 5));
            same("put(4, " + i + ", 5)", -13, x -> x.put(WORDS, i, 5));
        }
        same("put(2, 2, 0), as it is", 0, x -> x.put(CARDS, 2, 0));
        same("put(2, 0, 65636), as it is", 0, x -> x.put(CARDS, 0, 65636));
        same("put(4, 2, 265), as it is", 0, x -> x.put(WORDS, 2, 265));
        done("put(7, 1, 5)", 0, x -> x.put(NO_CARDS, 1, 5));
        done("put(2, 0, 5)", 0, x -> x.put(CARDS, 0, 5));
    }

    /** What element throws, or 0. */
    private static int thrown(TwoThirds x, int d, int i) {
        try {
            x.element(d, i);
            return 0;
        } catch (IllegalArgumentException e) {
            return e.getClass() == IllegalArgumentException.class ? NO_SHELF : 12345;
        } catch (IllegalStateException e) {
            return e.getClass() == IllegalStateException.class ? NO_PLACE : 12345;
        }
    }

    private static void element() {
        Due.sentence("element: IllegalArgumentException: no such SHELF; IllegalStateException: no ROW, no such place");
        world = World.READY;
        for (int i : new int[] {-1, 0, 100, MIN, MAX}) {
            noShelf("element at " + i, NO_SHELF, d -> x -> thrown(x, d, i));
            same("element(6, " + i + ")", NO_PLACE, x -> thrown(x, NOTHING, i));
            same("element(1, " + i + ")", NO_PLACE, x -> thrown(x, PERSON, i));
            same("element(5, " + i + ")", NO_PLACE, x -> thrown(x, EMPTY, i));
        }
        for (int i : new int[] {-1, 3, 4, 99, 100, MIN, MAX}) {
            same("element(2, " + i + ")", NO_PLACE, x -> thrown(x, CARDS, i));
        }
        same("element(2, 0)", 100, x -> x.element(CARDS, 0));
        same("element(2, 2)", 0, x -> x.element(CARDS, 2));
        same("element(7, 1)", 101, x -> x.element(NO_CARDS, 1));
    }

    private static void copy() {
        Due.sentence("copy: -1, -11 (either), -12 (no ROWS of one SORT), -13");
        world = World.READY;
        noShelf("copy from d", -1, d -> x -> x.copy(d, 0, CARDS, 0, 1));
        noShelf("copy to e", -1, e -> x -> x.copy(CARDS, 0, e, 0, 1));
        noShelf("copy to e, from nothing", -1, e -> x -> x.copy(NOTHING, 0, e, 0, 1));
        noShelf("copy from d, to nothing", -1, d -> x -> x.copy(d, 0, NOTHING, 0, 1));
        int[][] pairs = {
            {NOTHING, CARDS, -11}, {NOTHING, NOTHING, -11}, {NOTHING, PERSON, -11}, {PERSON, CARDS, -12}, {PERSON, PERSON, -12},
            {CARDS, MORE_CARDS, -12}, {CARDS, WORDS, -12}, {MORE_CARDS, WORDS, -12}, {EMPTY, CARDS, -12}, {EMPTY, PERSON, -12},
        };
        for (int[] one : pairs) {
            for (int n : new int[] {-1, 0, 1, 101}) {
                same("copy(" + one[0] + " to " + one[1] + ")", one[2], x -> x.copy(one[0], 0, one[1], 0, n));
                same("copy(" + one[1] + " to " + one[0] + ")", one[2], x -> x.copy(one[1], 0, one[0], 0, n));
                same("copy(" + one[0] + " to " + one[1] + ") at -1", one[2], x -> x.copy(one[0], -1, one[1], -1, n));
            }
        }
        int[][] places = {
            // i, j, n of MORE_CARDS (2 elements) to NO_CARDS (2 elements)
            {-1, 0, 1}, {0, -1, 1}, {2, 0, 1}, {0, 2, 1}, {0, 0, 3}, {1, 0, 2}, {0, 1, 2}, {3, 0, 0}, {0, 3, 0}, {-1, 0, 0},
            {0, -1, 0}, {0, 0, -1}, {1, 1, -1}, {MAX, 0, 1}, {0, MAX, 1}, {1, 0, MAX}, {0, 1, MAX}, {MAX, MAX, MAX},
            {MIN, 0, 1}, {0, MIN, 1}, {0, 0, MIN}, {MIN, MIN, MIN}, {0, 0, MAX},
        };
        for (int[] one : places) {
            String name = "(" + one[0] + ", " + one[1] + ", " + one[2] + ")";
            same("copy 3 to 7 " + name, -13, x -> x.copy(MORE_CARDS, one[0], NO_CARDS, one[1], one[2]));
            same("copy 7 to 7 " + name, -13, x -> x.copy(NO_CARDS, one[0], NO_CARDS, one[1], one[2]));
        }
        same("copy of none to none", 0, x -> x.copy(EMPTY, 0, EMPTY, 0, 0));
        same("copy of one to none", -13, x -> x.copy(WORDS, 0, EMPTY, 0, 1));
        same("copy of one from none", -13, x -> x.copy(EMPTY, 0, WORDS, 0, 1));
        same("copy of 0 behind the last", 0, x -> x.copy(MORE_CARDS, 2, NO_CARDS, 2, 0));
        same("copy onto itself", 3, x -> x.copy(CARDS, 0, CARDS, 0, 3));
        done("copy of all", 2, x -> x.copy(MORE_CARDS, 0, NO_CARDS, 0, 2));
        done("copy of the last", 101, x -> {
            x.copy(NO_CARDS, 1, MORE_CARDS, 0, 1);
            return x.element(MORE_CARDS, 0);
        });
        done("copy onto the last", 5, x -> {
            x.copy(NO_CARDS, 0, MORE_CARDS, 1, 1);
            return x.element(MORE_CARDS, 1);
        });
        copyOfHundred();
    }

    private static void copyOfHundred() {
        Due.sentence("copy: n elements of the ROW in SHELF d from i on come to that in SHELF e from j on: n");
        TwoThirds x = new TwoThirds();
        Due.same("row", x.row(0, 1, 100), 0);
        for (int i = 0; i < 100; i++) {
            x.put(0, i, i);
        }
        Due.same("row", x.row(1, 1, 100), 0);
        Due.same("all of 100", x.copy(0, 0, 1, 0, 100), 100);
        Due.same("101", x.copy(0, 0, 1, 0, 101), -13);
        Due.same("100 from 1 on", x.copy(0, 1, 1, 0, 100), -13);
        Due.same("100 to 1 on", x.copy(0, 0, 1, 1, 100), -13);
        for (int i = 0; i < 100; i++) {
            Due.sameText("element " + i, Due.elementOrThrow(x, 1, i), Integer.toString(i));
        }
        Due.same("within itself", x.copy(1, 0, 1, 1, 99), 99);
        Due.sameText("the first", Due.elementOrThrow(x, 1, 0), "0");
        for (int i = 1; i < 100; i++) {
            Due.sameText("element " + i, Due.elementOrThrow(x, 1, i), Integer.toString(i - 1));
        }
    }

    private static void depth() {
        Due.sentence("depth: -1000000001, -1000000011, -1000000012 (a ROW)");
        world = World.READY;
        noShelf("depth", LESS - 1, d -> x -> x.depth(d));
        same("depth of nothing", LESS - 11, x -> x.depth(NOTHING));
        for (int d : new int[] {TEXT, CARDS, MORE_CARDS, WORDS, EMPTY, NO_CARDS}) {
            same("depth(" + d + ")", LESS - 12, x -> x.depth(d));
        }
        same("depth(1)", 3, x -> x.depth(PERSON));
        done("depth below 0", -2, x -> {
            x.keep(NOTHING, 1, 5);
            return x.depth(NOTHING);
        });
    }

    private static void toss() {
        Due.sentence("toss: -1, -11, -12 (a ROW); -15: ENDED and JOKING ones, and any with STEPS 0, have none");
        world = World.READY;
        noShelf("toss", -1, d -> x -> x.toss(d));
        same("toss of nothing", -11, x -> x.toss(NOTHING));
        for (int d : new int[] {TEXT, CARDS, MORE_CARDS, WORDS, EMPTY, NO_CARDS}) {
            same("toss(" + d + ")", -12, x -> x.toss(d));
        }
        same("toss(1)", 1, x -> x.toss(PERSON));
        int[] due = {0, 1, 2, 103, -15, -15, 0, 7};
        for (int k = 0; k < 8; k++) {
            for (int steps : new int[] {0, 1, 9}) {
                int person = k;
                int learning = 206 + 10 * steps;
                done("toss of " + k + " with steps " + steps, steps == 0 ? -15 : k == 6 ? learning : due[k], x -> {
                    x.steps(person, steps);
                    x.keep(NOTHING, 1, person);
                    return x.toss(NOTHING);
                });
            }
        }
        Due.sentence("toss: its number; of MIXING ones 100 more; of LEARNING ones 200 plus their DEPTH");
        TwoThirds x = Due.with("p6 1 0;p6 9 20;p3 1 0;p2 1 0;p0 1 0;p7 1 0;p1 1 0;p4 9 0;p5 9 0;p6 0 0;p3 9 0;p0 9 0;", 12);
        int[] all = {216, 296, 102, 3, 4, 5, 6, -15, -15, -15, 110, 11};
        for (int k = 0; k < 12; k++) {
            Due.same("keep", x.keep(0, 1, k), 0);
            Due.same("toss of " + k, x.toss(0), all[k]);
            Due.same("what is taken from a SHELF stays there", x.toss(0), all[k]);
        }
    }

    // ---- what changes, and what doesn't

    private static void tellingChangesNothing() {
        Due.sentence("in mind; what is told changes nothing");
        world = World.READY;
        for (int n : new int[] {1, 19, 20}) {
            for (int person = 0; person < 8; person++) {
                int one = person;
                telling("wins(" + person + ", " + n + ")", x -> x.wins(one, n));
            }
        }
        telling("last", x -> x.last(0) + x.last(1) + x.last(2) + x.target(0) + x.target(1));
        telling("judge", x -> x.judge(CARDS));
        telling("ends", x -> x.ends(0) + x.ends(1));
        telling("parts", x -> x.parts(0, 6, 0) + x.parts(3, 6, 1));
        telling("all of words, shares, ahead, worth, jokers, differ", x -> x.words(CARDS, WORDS, 0) + x.shares(CARDS, 1)
            + x.ahead(CARDS, 20, 1) + x.worth(CARDS, 1) + x.jokers(CARDS, 0) + x.differ(CARDS, MORE_CARDS));
    }

    /** What is there when the image comes back has nothing of what was there in between. */
    private static void restoredOverOthers() {
        Due.sentence("RESTORED all is as it was then");
        TwoThirds x = Due.with("p2 1 0;p6 2 3;p3 4 0;p1 0 1;", 4);
        TwoThirds other = Due.with("p2 1 0;p6 2 3;p3 4 0;p1 0 1;", 4);
        for (TwoThirds one : new TwoThirds[] {x, other}) {
            Due.same("round()", one.round(), 1);
            Due.same("image()", one.image(), 4);
            Due.fill(one, 0, Due.BYTES, 33, -128, 27, 80);
            Due.fill(one, 1, Due.INTS, 33, 22, 27, 80, 0);
            Due.fill(one, 2, Due.BYTES, 33, -128);
            Due.fill(one, 3, Due.SHORTS, 101);
            Due.fill(one, 4, Due.BYTES, 100, 0, 4, 9);
        }
        Due.same("anew()", x.anew(), 4);
        Due.crowd(x, "b;g19/20;h1000;p5 9 20;p4 8 1;", 5);
        Due.same("round()", x.round(), 1);
        Due.same("wins in mind are told", x.wins(5, 20) < 0 ? 0 : 1, 1);
        Due.same("ahead, in mind", x.ahead(3, 20, 1), 1000);
        Due.same("restore()", x.restore(), 4);
        Due.sameText("all is as it was", Seen.now(x), Seen.now(other));
        Due.sameText("so is what is told of cards", Seen.toldCards(x), Seen.toldCards(other));
        Due.same("round()", x.round(), 2);
        Due.same("round()", other.round(), 2);
        Due.sameText("and what comes", Seen.game(x), Seen.game(other));
        TwoThirds nobody = new TwoThirds();
        nobody.image();
        Due.crowd(nobody, "b;g19/20;h1000;p5 9 20;p4 8 1;", 5);
        nobody.round();
        nobody.wins(0, 20);
        Due.same("restore()", nobody.restore(), 0);
        Due.sameText("a new object again", Seen.everything(nobody), Seen.everything(imageOfNothing()));
    }

    private static TwoThirds imageOfNothing() {
        TwoThirds x = new TwoThirds();
        Due.same("image()", x.image(), 0);
        return x;
    }

    private static void lastCall() {
        Due.sentence("An object is used for at most 512 calls after it has been made");
        TwoThirds x = new TwoThirds();
        Due.same("row", x.row(0, 0, 7), 0);
        String text = "p2 1 0;";
        for (int i = 0; i < text.length(); i++) {
            Due.same("put", x.put(0, i, text.charAt(i)), 0);
        }
        Due.same("crowd(0)", x.crowd(0), 1);
        for (int call = 10; call <= 509; call++) {
            Due.same("call " + call, call % 2 == 0 ? x.crowd(1) : x.wins(0, 20), call % 2 == 0 ? -11 : 20);
        }
        Due.same("call 510", x.round(), 1);
        Due.same("call 511", x.crowd(0), -2000);
        Due.same("call 512", x.last(0), 33);
    }

    private static void telling(String name, Call call) {
        for (World one : new World[] {World.READY, World.PLAYED}) {
            world = one;
            TwoThirds x = world.make();
            long answer = call.on(x);
            Due.same(name + " told again", call.on(x), answer);
            Due.sameText(world + ": what is seen behind " + name, Seen.everything(x), world.seen());
        }
    }

    private static void changesOneThing() {
        Due.sentence("what is done changes what it says alone");
        TwoThirds x = Due.with("p2 1 0;p6 2 3;p1 0 1;", 3);
        int[] counts = {3, 0, 2, 3, 100, 3};
        int[] news = {7, 8, 9};
        for (int what = 0; what < 3; what++) {
            counts[2 + what] = news[what];
            x.set(what, news[what]);
            counts(x, counts);
        }
        x.set(3, 1);
        counts(x, counts);
        x.set(4, -5);
        counts(x, counts);
        Due.same("prize", x.set(3, 0), 1);
        Due.same("z", Due.zOf(x), -5);
        Due.same("steps(1, 9)", x.steps(1, 9), 2);
        counts[5] = 10;
        counts(x, counts);
        int[][] people = {{2, 1, 0}, {6, 9, 3}, {1, 0, 1}};
        for (int person = 0; person < 3; person++) {
            for (int what = 0; what < 3; what++) {
                Due.same("of(" + person + ", " + what + ")", x.of(person, what), people[person][what]);
            }
        }
        Due.same("round()", x.round(), 1);
        counts[1] = 1;
        counts(x, counts);
        Due.same("anew()", x.anew(), 3);
        counts[1] = 0;
        counts(x, counts);
    }

    private static void counts(TwoThirds x, int[] due) {
        for (int what = 0; what < due.length; what++) {
            Due.same("count(" + what + ")", x.count(what), due[what]);
        }
    }
}
