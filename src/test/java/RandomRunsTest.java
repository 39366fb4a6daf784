import java.util.Random;

/** Random runs of calls, always the same ones: the class and the plain model answer alike, and nothing else is thrown. */
public final class RandomRunsTest {
    private static final int RUNS = Integer.getInteger("runs", 1500);
    private static final int CALLS = 512;
    private static final String[] NAMES = {
        "crowd", "of", "set", "steps", "holds", "round", "anew", "last", "target", "wins", "mean", "winners", "best",
        "level", "stepsOf", "shares", "words", "ahead", "worth", "jokers", "differ", "judge", "ends", "parts", "image",
        "restore", "count", "keep", "row", "put", "element", "copy", "depth", "toss",
    };
    /** How often each call comes, beside the others. */
    private static final int[] OFTEN = {
        4, 3, 3, 2, 3, 6, 1, 3, 2, 2, 2, 2, 2, 1, 2, 2, 3, 2, 3, 3, 3, 3, 1, 3, 1, 1, 2, 4, 4, 8, 3, 3, 4, 4,
    };

    private final Random random;
    private final TwoThirds x = new TwoThirds();
    private final PlainModel model = new PlainModel();
    private final int run;
    private int calls = 0;

    private RandomRunsTest(int run) {
        this.run = run;
        random = new Random(run);
    }

    public static void main(String[] args) {
        for (int run = 0; run < RUNS; run++) {
            new RandomRunsTest(run).play();
        }
        Due.end("RandomRunsTest");
    }

    private void play() {
        int all = 0;
        for (int often : OFTEN) {
            all += often;
        }
        while (calls < CALLS) {
            int chance = random.nextInt(all + 6);
            int call = 0;
            while (call < OFTEN.length && chance >= OFTEN[call]) {
                chance -= OFTEN[call];
                call++;
            }
            if (call == OFTEN.length) {
                script(chance);
            } else {
                ask(call, arguments(call));
            }
        }
    }

    private void script(int chance) {
        if (chance < 3) {
            String text = crowdText();
            int d = random.nextInt(8);
            ask(28, d, 0, Math.min(100, text.length()));
            for (int i = 0; i < Math.min(100, text.length()); i++) {
                ask(29, d, i, text.charAt(i));
            }
            ask(0, d);
        } else {
            int d = random.nextInt(8);
            int high = (int) model.answer(26, new int[] {4});
            int size = random.nextInt(6) == 0 ? 100 : random.nextInt(14);
            ask(28, d, high > 127 ? 1 + random.nextInt(2) : random.nextInt(3), size);
            int few = random.nextInt(3);
            for (int i = 0; i < size && calls < CALLS; i++) {
                int card = few == 0 ? random.nextInt(3) * high / 2 : random.nextInt(high + 1);
                ask(29, d, i, random.nextInt(200) == 0 ? high + 1 : card);
            }
        }
    }

    private String crowdText() {
        StringBuilder text = new StringBuilder();
        int statements = random.nextInt(8);
        for (int i = 0; i < statements; i++) {
            switch (random.nextInt(7)) {
                case 0:
                    text.append('g').append(number(20)).append('/').append(number(20));
                    break;
                case 1:
                    text.append('h').append(number(random.nextBoolean() ? 1000 : 120));
                    break;
                case 2:
                    text.append(random.nextBoolean() ? 'b' : 'n');
                    break;
                default:
                    text.append('p').append(digit(8)).append(' ').append(digit(10)).append(' ').append(number(20));
                    break;
            }
            text.append(';');
        }
        if (random.nextInt(4) == 0 && text.length() > 0) {
            String signs = "pghbn; /0123456789x";
            int place = random.nextInt(text.length());
            char sign = signs.charAt(random.nextInt(signs.length()));
            switch (random.nextInt(3)) {
                case 0:
                    text.setCharAt(place, sign);
                    break;
                case 1:
                    text.deleteCharAt(place);
                    break;
                default:
                    text.insert(place, sign);
                    break;
            }
        }
        return text.toString();
    }

    private int digit(int most) {
        return random.nextInt(40) == 0 ? random.nextInt(10) : random.nextInt(most);
    }

    private int number(int most) {
        return random.nextInt(40) == 0 ? random.nextInt(1 << random.nextInt(15)) : random.nextInt(most + 1);
    }

    private int[] arguments(int call) {
        int d = shelf();
        int e = shelf();
        int person = small(12);
        int yes = small(2);
        switch (call) {
            case 1:
                return new int[] {person, small(4)};
            case 2: {
                int what = small(5);
                int[] most = {21, 21, 1001, 2};
                return new int[] {what, what >= 0 && what < 4 ? small(most[what]) : random.nextInt()};
            }
            case 3:
                return new int[] {person, small(10)};
            case 4:
                return new int[] {person};
            case 7:
                return new int[] {small(3)};
            case 8:
            case 22:
                return new int[] {yes};
            case 9:
                return new int[] {person, small(21)};
            case 10:
                return new int[] {d, yes, small(2)};
            case 11:
            case 19:
                return new int[] {d, yes};
            case 13:
                return new int[] {small(10)};
            case 14:
                return new int[] {small(random.nextBoolean() ? 101 : 1001)};
            case 15:
            case 18:
                return new int[] {d, small(10)};
            case 16:
                return new int[] {d, e, yes};
            case 17:
                return new int[] {d, small(21), small(21)};
            case 20:
                return new int[] {d, e};
            case 23:
                return new int[] {person, small(12), yes};
            case 26:
                return new int[] {small(6)};
            case 27:
                return new int[] {d, random.nextInt(5) == 0 ? 0 : yes, person};
            case 28:
                return new int[] {d, small(3), random.nextInt(3) == 0 ? 1 + random.nextInt(3) : small(101)};
            case 29:
                return new int[] {d, small(14), value()};
            case 30:
                return new int[] {d, small(14)};
            case 31:
                return new int[] {d, small(8), e, small(8), small(8)};
            default:
                return new int[] {d};
        }
    }

    private int shelf() {
        return random.nextInt(30) == 0 ? odd() : random.nextInt(8);
    }

    private int small(int many) {
        if (random.nextInt(30) == 0) {
            return odd();
        }
        return random.nextInt(12) == 0 ? many : random.nextInt(many);
    }

    private int value() {
        switch (random.nextInt(6)) {
            case 0:
                return odd();
            case 1:
                return -128;
            case 2:
                return random.nextInt(10);
            default:
                return random.nextInt(101);
        }
    }

    private int odd() {
        int[] all = {-1, -2, 8, 12, 100, 101, 255, 32767, -32768, 65536, Integer.MAX_VALUE, Integer.MIN_VALUE};
        return random.nextInt(3) == 0 ? random.nextInt() : all[random.nextInt(all.length)];
    }

    /** Beyond its last call an object's answers are free. */
    private void ask(int call, int... a) {
        if (calls == CALLS) {
            return;
        }
        calls++;
        StringBuilder told = new StringBuilder("run ").append(run).append(": ").append(NAMES[call]).append('(');
        for (int i = 0; i < a.length; i++) {
            told.append(i == 0 ? "" : ", ").append(a[i]);
        }
        String name = told.append(')').toString();
        if (call == 30) {
            Due.sameText(name, Due.elementOrThrow(x, a[0], a[1]), model.element(a[0], a[1]));
            return;
        }
        String due = Long.toString(model.answer(call, a));
        String got;
        try {
            got = Long.toString(call < 17 ? early(call, a) : late(call, a));
        } catch (RuntimeException thrown) {
            got = thrown.toString();
        }
        Due.sameText(name, got, due);
    }

    private long early(int call, int[] a) {
        switch (call) {
            case 0:
                return x.crowd(a[0]);
            case 1:
                return x.of(a[0], a[1]);
            case 2:
                return x.set(a[0], a[1]);
            case 3:
                return x.steps(a[0], a[1]);
            case 4:
                return x.holds(a[0]);
            case 5:
                return x.round();
            case 6:
                return x.anew();
            case 7:
                return x.last(a[0]);
            case 8:
                return x.target(a[0]);
            case 9:
                return x.wins(a[0], a[1]);
            case 10:
                return x.mean(a[0], a[1], a[2]);
            case 11:
                return x.winners(a[0], a[1]);
            case 12:
                return x.best(a[0]);
            case 13:
                return x.level(a[0]);
            case 14:
                return x.stepsOf(a[0]);
            case 15:
                return x.shares(a[0], a[1]);
            default:
                return x.words(a[0], a[1], a[2]);
        }
    }

    private long late(int call, int[] a) {
        switch (call) {
            case 17:
                return x.ahead(a[0], a[1], a[2]);
            case 18:
                return x.worth(a[0], a[1]);
            case 19:
                return x.jokers(a[0], a[1]);
            case 20:
                return x.differ(a[0], a[1]);
            case 21:
                return x.judge(a[0]);
            case 22:
                return x.ends(a[0]);
            case 23:
                return x.parts(a[0], a[1], a[2]);
            case 24:
                return x.image();
            case 25:
                return x.restore();
            case 26:
                return x.count(a[0]);
            case 27:
                return x.keep(a[0], a[1], a[2]);
            case 28:
                return x.row(a[0], a[1], a[2]);
            case 29:
                return x.put(a[0], a[1], a[2]);
            case 31:
                return x.copy(a[0], a[1], a[2], a[3], a[4]);
            case 32:
                return x.depth(a[0]);
            default:
                return x.toss(a[0]);
        }
    }
}
