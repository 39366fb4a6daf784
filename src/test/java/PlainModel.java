import java.math.BigInteger;
import java.util.ArrayList;
import java.util.List;
import java.util.regex.Matcher;
import java.util.regex.Pattern;

/** The document told a second time, in other ways: by recursion, whole fractions and patterns. */
final class PlainModel {
    private static final String NUMBER = "(?:0|[1-9][0-9]{0,3})";
    private static final Pattern CROWD = Pattern.compile(
        "(?:p[0-9] [0-9] " + NUMBER + ";|g" + NUMBER + "/" + NUMBER + ";|h" + NUMBER + ";|[bn];)+");
    private static final long LEAST_LONG_LESS = 4_000_000_000_000_000_000L;

    /** A fraction in least terms. */
    private static final class Fraction implements Comparable<Fraction> {
        final BigInteger above;
        final BigInteger below;

        Fraction(long above, long below) {
            this(BigInteger.valueOf(above), BigInteger.valueOf(below));
        }

        private Fraction(BigInteger above, BigInteger below) {
            BigInteger common = above.gcd(below);
            this.above = above.divide(common);
            this.below = below.divide(common);
        }

        Fraction less(Fraction other) {
            return new Fraction(above.multiply(other.below).subtract(other.above.multiply(below)),
                below.multiply(other.below));
        }

        Fraction times(long up, long down) {
            return new Fraction(above.multiply(BigInteger.valueOf(up)), below.multiply(BigInteger.valueOf(down)));
        }

        Fraction far(Fraction other) {
            Fraction less = less(other);
            return new Fraction(less.above.abs(), less.below);
        }

        int part(int part) {
            return (part == 0 ? above : below).intValueExact();
        }

        public int compareTo(Fraction other) {
            return above.multiply(other.below).compareTo(other.above.multiply(below));
        }
    }

    private static final class Somebody implements Cloneable {
        int number;
        int kind;
        int steps;
        int slip;
        int card = -1;

        Somebody copy() {
            Somebody other = new Somebody();
            other.number = number;
            other.kind = kind;
            other.steps = steps;
            other.slip = slip;
            other.card = card;
            return other;
        }
    }

    private static final class World {
        int up = 2;
        int down = 3;
        int high = 100;
        int prize = 0;
        int z = 1;
        int rounds = 0;
        List<Somebody> people = new ArrayList<>();

        World copy() {
            World other = new World();
            other.up = up;
            other.down = down;
            other.high = high;
            other.prize = prize;
            other.z = z;
            other.rounds = rounds;
            for (Somebody one : people) {
                other.people.add(one.copy());
            }
            return other;
        }

        long[] cards() {
            return people.stream().mapToLong(one -> one.card).toArray();
        }

        int draw(int n) {
            z = z * 1103515245 + 12345;
            return (z & 0x7fffffff) / 65536 % n;
        }

        int hold(long number) {
            return (int) Math.min(high, Math.max(0, number));
        }

        int stepping(int k) {
            return k == 0 ? hold(high / 2) : hold((long) up * stepping(k - 1) / down);
        }

        int mixing(int k) {
            if (k == 0) {
                return hold(high / 2);
            }
            int sum = 0;
            for (int i = 0; i < k; i++) {
                sum += mixing(i);
            }
            return hold((long) up * hold(sum / k) / down);
        }

        int learning(int k) {
            if (rounds == 0) {
                return stepping(k);
            }
            int x = 0;
            for (long card : cards()) {
                x += (int) card;
            }
            x = hold(x / people.size());
            for (int i = 0; i < (k == 0 ? 1 : k); i++) {
                x = hold((long) up * x / down);
            }
            return x;
        }

        int holds(Somebody one) {
            switch (one.kind) {
                case 2:
                    return stepping(one.steps);
                case 3:
                    return mixing(one.steps);
                case 4:
                    return up <= down ? 0 : high;
                case 5:
                    return high;
                case 6:
                    return learning(one.steps);
                default:
                    return high / 2;
            }
        }

        void round() {
            int[] written = new int[people.size()];
            for (int i = 0; i < written.length; i++) {
                Somebody one = people.get(i);
                int held;
                if (one.kind == 1) {
                    held = draw(high + 1);
                } else if (one.kind == 7) {
                    held = hold(draw(high + 1) / 2 + high / 2);
                } else {
                    held = holds(one);
                }
                written[i] = one.slip == 0 ? held : hold(held + draw(2 * one.slip + 1) - one.slip);
            }
            for (int i = 0; i < written.length; i++) {
                people.get(i).card = written[i];
            }
            rounds++;
        }

        Fraction mean(long[] cards) {
            long sum = 0;
            for (long card : cards) {
                sum += card;
            }
            return new Fraction(sum, cards.length);
        }

        Fraction target(long[] cards) {
            return mean(cards).times(up, down);
        }

        List<Integer> winners(long[] cards) {
            Fraction target = target(cards);
            List<Integer> best = new ArrayList<>();
            for (int i = 0; i < cards.length; i++) {
                Fraction card = new Fraction(cards[i], 1);
                if (prize == 1 && card.compareTo(target) > 0) {
                    continue;
                }
                if (!best.isEmpty()) {
                    long ahead = cards[best.get(0)];
                    int order = prize == 1 ? Long.compare(ahead, cards[i])
                        : card.far(target).compareTo(new Fraction(ahead, 1).far(target));
                    if (order > 0) {
                        continue;
                    }
                    if (order < 0) {
                        best.clear();
                    }
                }
                best.add(i);
            }
            return best;
        }

        int stepsOf(long card) {
            int best = 0;
            for (int k = 1; k <= 9; k++) {
                if (Math.abs(stepping(k) - card) < Math.abs(stepping(best) - card)) {
                    best = k;
                }
            }
            return best;
        }

        int shares(long[] cards, int k) {
            int many = 0;
            for (long card : cards) {
                many += stepsOf(card) == k ? 1 : 0;
            }
            return many;
        }
    }

    private static final class Told {
        int sort;
        long[] values;
    }

    private World world = new World();
    private World imageOfIt = null;
    private final Object[] shelves = new Object[8];

    private static final class Refused extends RuntimeException {
        private static final long serialVersionUID = 1L;
        final int number;

        Refused(int number) {
            super("refused", null, false, false);
            this.number = number;
        }
    }

    private static void refuseIf(boolean so, int number) {
        if (so) {
            throw new Refused(number);
        }
    }

    private static boolean in(int n, int least, int most) {
        return n >= least && n <= most;
    }

    private Somebody somebody(int i) {
        refuseIf(!in(i, 0, world.people.size() - 1), -1);
        return world.people.get(i);
    }

    private static void refuseShelf(int d) {
        refuseIf(!in(d, 0, 7), -1);
    }

    private Told told(int d) {
        refuseIf(shelves[d] == null, -11);
        refuseIf(!(shelves[d] instanceof Told), -12);
        return (Told) shelves[d];
    }

    private boolean areCards(Told row) {
        boolean all = row.values.length > 0;
        for (long v : row.values) {
            all &= v >= 0 && v <= world.high;
        }
        return all;
    }

    private long[] cards(int d) {
        Told row = told(d);
        refuseIf(!areCards(row), -13);
        return row.values;
    }

    /** What a call answers, by its number in the order of the face; element is by itself. */
    long answer(int call, int[] a) {
        try {
            return one(call, a);
        } catch (Refused refused) {
            if (call == 18) {
                return refused.number - LEAST_LONG_LESS;
            }
            return call == 32 ? refused.number - 1_000_000_000 : refused.number;
        }
    }

    private long one(int call, int[] a) {
        if (call < 10) {
            return people(call, a);
        }
        return call < 22 ? rows(call, a) : others(call, a);
    }

    private long people(int call, int[] a) {
        switch (call) {
            case 0:
                return crowd(a[0]);
            case 1: {
                Somebody one = somebody(a[0]);
                refuseIf(!in(a[1], 0, 3), -1);
                refuseIf(a[1] == 3 && one.card < 0, -4);
                return new int[] {one.kind, one.steps, one.slip, one.card}[a[1]];
            }
            case 2:
                return set(a[0], a[1]);
            case 3: {
                Somebody one = somebody(a[0]);
                refuseIf(!in(a[1], 0, 9), -1);
                int were = one.steps;
                one.steps = a[1];
                return were;
            }
            case 4: {
                Somebody one = somebody(a[0]);
                refuseIf(one.kind == 1 || one.kind == 7, -3);
                return world.holds(one);
            }
            case 5:
                refuseIf(world.rounds == 99, -2);
                refuseIf(world.people.isEmpty(), -3);
                world.round();
                return world.rounds;
            case 6:
                world.rounds = 0;
                world.people.forEach(one -> one.card = -1);
                return world.people.size();
            case 7: {
                refuseIf(!in(a[0], 0, 2), -1);
                refuseIf(world.rounds == 0, -3);
                List<Integer> winners = world.winners(world.cards());
                refuseIf(a[0] == 2 && winners.isEmpty(), -4);
                if (a[0] == 0) {
                    return java.util.Arrays.stream(world.cards()).sum();
                }
                return a[0] == 1 ? winners.size() : winners.get(0);
            }
            case 8:
                refuseIf(!in(a[0], 0, 1), -1);
                refuseIf(world.rounds == 0, -3);
                return world.target(world.cards()).part(a[0]);
            default: {
                somebody(a[0]);
                refuseIf(!in(a[1], 1, 20), -1);
                World mind = world.copy();
                int won = 0;
                for (int i = 0; i < a[1]; i++) {
                    mind.round();
                    won += mind.winners(mind.cards()).contains(a[0]) ? 1 : 0;
                }
                return won;
            }
        }
    }

    private long rows(int call, int[] a) {
        switch (call) {
            case 10: {
                refuseIf(!in(a[0], 0, 7) || !in(a[1], 0, 1) || !in(a[2], 0, 1), -1);
                long[] cards = cards(a[0]);
                return (a[1] == 0 ? world.mean(cards) : world.target(cards)).part(a[2]);
            }
            case 11: {
                refuseIf(!in(a[0], 0, 7) || !in(a[1], 0, 1), -1);
                List<Integer> winners = world.winners(cards(a[0]));
                refuseIf(a[1] == 1 && winners.isEmpty(), -4);
                return a[1] == 0 ? winners.size() : winners.get(0);
            }
            case 12:
                refuseShelf(a[0]);
                return best(cards(a[0]));
            case 13:
                refuseIf(!in(a[0], 0, 9), -1);
                return world.stepping(a[0]);
            case 14:
                refuseIf(!in(a[0], 0, world.high), -1);
                return world.stepsOf(a[0]);
            case 15:
                refuseIf(!in(a[0], 0, 7) || !in(a[1], 0, 9), -1);
                return world.shares(cards(a[0]), a[1]);
            case 16:
                return words(a[0], a[1], a[2]);
            case 17: {
                refuseIf(!in(a[0], 0, 7) || !in(a[1], 0, 20) || !in(a[2], 1, 20), -1);
                World other = world.copy();
                other.up = a[1];
                other.down = a[2];
                long sum = 0;
                long[] cards = cards(a[0]);
                for (int k = 0; k <= 9; k++) {
                    sum += (long) world.shares(cards, k) * other.stepping(k);
                }
                return sum;
            }
            case 18: {
                refuseIf(!in(a[0], 0, 7) || !in(a[1], 0, 8), -1);
                Fraction target = world.target(cards(a[0]));
                Fraction without = new Fraction(world.stepping(a[1]), 1).far(target);
                Fraction with = new Fraction(world.stepping(a[1] + 1), 1).far(target);
                return without.less(with).times(target.below.longValueExact(), 1).above.longValueExact();
            }
            case 19: {
                refuseIf(!in(a[0], 0, 7) || !in(a[1], 0, 1), -1);
                long[] cards = cards(a[0]);
                long[] others = java.util.Arrays.stream(cards).filter(card -> card != world.high).toArray();
                Fraction without = others.length == 0 ? new Fraction(0, 1) : world.target(others);
                return world.target(cards).less(without).part(a[1]);
            }
            case 20: {
                refuseShelf(a[0]);
                refuseShelf(a[1]);
                refuseIf(shelves[a[0]] == null || shelves[a[1]] == null, -11);
                told(a[0]);
                told(a[1]);
                long[] one = cards(a[0]);
                long[] other = cards(a[1]);
                long unlike = 0;
                for (int k = 0; k <= 9; k++) {
                    unlike += Math.abs(
                        (long) world.shares(one, k) * other.length - (long) world.shares(other, k) * one.length);
                }
                return unlike;
            }
            default:
                return judge(a[0]);
        }
    }

    private long others(int call, int[] a) {
        switch (call) {
            case 22: {
                refuseIf(!in(a[0], 0, 1), -1);
                int x = world.high / 2;
                int times = 0;
                while (world.hold((long) world.up * x / world.down) != x) {
                    x = world.hold((long) world.up * x / world.down);
                    times++;
                }
                return a[0] == 0 ? x : times;
            }
            case 23: {
                Somebody one = somebody(a[0]);
                Somebody other = somebody(a[1]);
                refuseIf(a[0] == a[1] || !in(a[2], 0, 1), -1);
                refuseIf(one.kind % 6 == 1 || other.kind % 6 == 1, -3);
                World then = world.copy();
                int[] unlike = new int[21];
                int best = 20;
                for (int up = 20; up >= 0; up--) {
                    then.up = up;
                    unlike[up] = Math.abs(then.holds(one) - then.holds(other));
                    best = unlike[up] >= unlike[best] ? up : best;
                }
                return a[2] == 0 ? best : unlike[best];
            }
            case 24:
                imageOfIt = world.copy();
                return world.people.size();
            case 25:
                refuseIf(imageOfIt == null, -3);
                world = imageOfIt.copy();
                return world.people.size();
            case 26: {
                refuseIf(!in(a[0], 0, 5), -1);
                int steps = world.people.stream().mapToInt(one -> one.steps).sum();
                return new int[] {world.people.size(), world.rounds, world.up, world.down, world.high, steps}[a[0]];
            }
            case 27:
                refuseIf(!in(a[0], 0, 7) || !in(a[1], 0, 1), -1);
                shelves[a[0]] = a[1] == 0 ? null : somebody(a[2]).copy();
                return 0;
            case 28: {
                refuseIf(!in(a[0], 0, 7) || !in(a[1], 0, 2) || a[2] > 100, -1);
                refuseIf(a[2] < 0, -14);
                Told row = new Told();
                row.sort = a[1];
                row.values = new long[a[2]];
                shelves[a[0]] = row;
                return 0;
            }
            case 29: {
                refuseShelf(a[0]);
                Told row = told(a[0]);
                refuseIf(!in(a[1], 0, row.values.length - 1), -13);
                row.values[a[1]] = row.sort == 0 ? (byte) a[2] : row.sort == 1 ? (short) a[2] : a[2];
                return 0;
            }
            case 31:
                return copy(a);
            case 32:
                return depth(held(a[0]));
            default: {
                Somebody one = held(a[0]);
                refuseIf(one.kind == 4 || one.kind == 5 || one.steps == 0, -15);
                if (one.kind == 6) {
                    return 200 + depth(one);
                }
                return one.number + (one.kind == 3 ? 100 : 0);
            }
        }
    }

    /** What element answers, or the name of what it throws. */
    String element(int d, int i) {
        if (!in(d, 0, 7)) {
            return "java.lang.IllegalArgumentException";
        }
        if (!(shelves[d] instanceof Told) || !in(i, 0, ((Told) shelves[d]).values.length - 1)) {
            return "java.lang.IllegalStateException";
        }
        return Long.toString(((Told) shelves[d]).values[i]);
    }

    private Somebody held(int d) {
        refuseShelf(d);
        refuseIf(shelves[d] == null, -11);
        refuseIf(!(shelves[d] instanceof Somebody), -12);
        return (Somebody) shelves[d];
    }

    private static int depth(Somebody one) {
        int noughth = 1 + one.slip;
        int stepping = 1 + 10 * one.steps;
        return new int[] {
            1, noughth, stepping, 2 * stepping, 91, 1 - one.slip, stepping + 5, noughth / 2,
        }[one.kind];
    }

    private long copy(int[] a) {
        refuseShelf(a[0]);
        refuseShelf(a[2]);
        refuseIf(shelves[a[0]] == null || shelves[a[2]] == null, -11);
        Told from = told(a[0]);
        Told to = told(a[2]);
        refuseIf(from.sort != to.sort, -12);
        refuseIf(a[1] < 0 || a[3] < 0 || a[4] < 0, -13);
        refuseIf((long) a[1] + a[4] > from.values.length || (long) a[3] + a[4] > to.values.length, -13);
        long[] taken = java.util.Arrays.copyOfRange(from.values, a[1], a[1] + a[4]);
        for (int i = 0; i < taken.length; i++) {
            to.values[a[3] + i] = taken[i];
        }
        return a[4];
    }

    private long set(int what, int n) {
        int[][] ranges = {{0, 20}, {1, 20}, {1, 1000}, {0, 1}, {Integer.MIN_VALUE, Integer.MAX_VALUE}};
        refuseIf(!in(what, 0, 4) || !in(n, ranges[what][0], ranges[what][1]), -1);
        refuseIf(what < 4 && world.rounds > 0, -3);
        int was = new int[] {world.up, world.down, world.high, world.prize, world.z}[what];
        world.up = what == 0 ? n : world.up;
        world.down = what == 1 ? n : world.down;
        world.high = what == 2 ? n : world.high;
        world.prize = what == 3 ? n : world.prize;
        world.z = what == 4 ? n : world.z;
        return was;
    }

    private long best(long[] cards) {
        long[] more = java.util.Arrays.copyOf(cards, cards.length + 1);
        int best = -1;
        Fraction least = null;
        for (int card = 0; card <= world.high; card++) {
            more[cards.length] = card;
            Fraction target = world.target(more);
            Fraction own = new Fraction(card, 1);
            if (world.prize == 1) {
                best = own.compareTo(target) <= 0 ? card : best;
            } else if (least == null || own.far(target).compareTo(least) < 0) {
                least = own.far(target);
                best = card;
            }
        }
        return best;
    }

    private long words(int d, int e, int what) {
        refuseIf(!in(d, 0, 7) || !in(e, 0, 7) || !in(what, 0, 1), -1);
        refuseIf(shelves[d] == null || shelves[e] == null, -11);
        Told row = told(d);
        Told said = told(e);
        refuseIf(said.sort != 0, -12);
        refuseIf(!areCards(row) || row.values.length != said.values.length, -13);
        int many = 0;
        for (int i = 0; i < row.values.length; i++) {
            int order = Long.compare(said.values[i], world.stepsOf(row.values[i]));
            many += what == 0 && order == 0 || what == 1 && order > 0 ? 1 : 0;
        }
        return many;
    }

    private long judge(int d) {
        refuseShelf(d);
        refuseIf(world.rounds == 0, -3);
        Told row = told(d);
        long untold = new long[] {-128, -32768, -2147483648L}[row.sort];
        for (int i = 0; i < row.values.length; i++) {
            if (i == world.people.size()) {
                return i;
            }
            if (row.values[i] != untold && row.values[i] != world.people.get(i).card) {
                return i;
            }
        }
        return -4;
    }

    private long crowd(int d) {
        refuseShelf(d);
        Told row = told(d);
        refuseIf(row.sort != 0, -12);
        StringBuilder text = new StringBuilder();
        for (long v : row.values) {
            text.append((char) (v & 255));
        }
        refuseIf(!CROWD.matcher(text).matches(), -1000 - firstFault(text.toString()));
        World tried = world.copy();
        String[] statements = text.toString().split(";");
        int place = 0;
        for (String statement : statements) {
            refuseIf(world.rounds > 0 || !comes(tried, statement), -2000 - place);
            place += statement.length() + 1;
        }
        world = tried;
        return statements.length;
    }

    /** The least place behind which no crowd can go on with what stands up to it. */
    private static int firstFault(String text) {
        for (int i = 0; i < text.length(); i++) {
            Matcher matcher = CROWD.matcher(text.substring(0, i + 1));
            if (!matcher.matches() && !matcher.hitEnd()) {
                return i;
            }
        }
        return text.length();
    }

    private static boolean comes(World tried, String statement) {
        String[] words = statement.substring(1).split("[ /]");
        switch (statement.charAt(0)) {
            case 'p': {
                Somebody one = new Somebody();
                one.number = tried.people.size();
                one.kind = Integer.parseInt(words[0]);
                one.steps = Integer.parseInt(words[1]);
                one.slip = Integer.parseInt(words[2]);
                tried.people.add(one);
                return one.kind <= 7 && one.slip <= 20 && tried.people.size() <= 12;
            }
            case 'g':
                tried.up = Integer.parseInt(words[0]);
                tried.down = Integer.parseInt(words[1]);
                return in(tried.up, 0, 20) && in(tried.down, 1, 20);
            case 'h':
                tried.high = Integer.parseInt(words[0]);
                return in(tried.high, 1, 1000);
            default:
                tried.prize = statement.equals("b") ? 1 : 0;
                return true;
        }
    }
}
