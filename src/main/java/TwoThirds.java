import java.util.Arrays;

/** Two thirds of what they say: people who write a number on a card, and what can be told of their cards. */
public final class TwoThirds {
    private static final int SHELF_COUNT = 8;
    private static final int MOST_ELEMENTS = 100;
    private static final int MOST_PEOPLE = 12;
    private static final int MOST_ROUNDS = 99;
    private static final int MOST_ROUNDS_IN_MIND = 20;
    private static final int MOST_STEPS = 9;
    private static final int MOST_SLIP = 20;
    private static final int MOST_SHARE = 20;
    private static final int MOST_HIGH = 1000;
    private static final int MOST_TIMES = 100;
    private static final int MOST_DIGITS = 4;
    /** Stands far above what the search for a common measure of two ints can need. */
    private static final int MANY = 1000;

    private static final int PERSON = 0;
    private static final int NOUGHTH = 1;
    private static final int STEPPING = 2;
    private static final int MIXING = 3;
    private static final int ENDED = 4;
    private static final int JOKING = 5;
    private static final int LEARNING = 6;
    private static final int WRONG = 7;

    private static final int UP = 0;
    private static final int DOWN = 1;
    private static final int HIGH = 2;
    private static final int PRIZE = 3;
    private static final int Z = 4;

    private static final int NEAREST = 0;
    private static final int BELOW = 1;

    private static final int BYTES = 0;
    private static final int SHORTS = 1;
    private static final int INTS = 2;
    private static final int LEAST_BYTE = -128;
    private static final int LEAST_SHORT = -32768;
    private static final int LEAST_INT = -2147483648;

    private static final int HOLDS_NOTHING = 0;
    private static final int HOLDS_PERSON = 1;
    private static final int HOLDS_ROW = 2;

    private static final int FINE = 0;
    private static final int NOT_AS_TOLD = -1;
    private static final int NO_ROOM = -2;
    private static final int NOT_NOW = -3;
    private static final int NONE = -4;
    private static final int NOTHING_HELD = -11;
    private static final int OTHER_KIND = -12;
    private static final int NO_SUCH_PLACE = -13;
    private static final int SIZE_BELOW_NOUGHT = -14;
    private static final int NO_FAILURE = -15;
    /** Goes with refusals where numbers below 0 are answers. */
    private static final int LESS = -1000000000;
    private static final long LESS_OF_LONGS = -4000000000000000000L;

    /** How far from winning a card is that can't win. */
    private static final int NEVER = 2147483647;

    private final Game now;
    private final Game kept;
    /** What is tried, or played ahead, without being done. */
    private final Game mind;
    private boolean imageTaken;
    private final Shelf[] shelves;
    private final int[] counts;
    private final int[] otherCounts;

    public TwoThirds() {
        now = new Game();
        kept = new Game();
        mind = new Game();
        shelves = new Shelf[SHELF_COUNT];
        for (int i = 0; i < SHELF_COUNT; i++) {
            shelves[i] = new Shelf();
        }
        counts = new int[MOST_STEPS + 1];
        otherCounts = new int[MOST_STEPS + 1];
    }

    // ---- crowds

    public int crowd(int d) {
        Shelf shelf = shelfAt(d);
        int refusal = rowRefusal(shelf);
        if (refusal != FINE) {
            return refusal;
        }
        if (shelf.row.sort != BYTES) {
            return OTHER_KIND;
        }
        Reader reader = new Reader(shelf.row);
        int statements = reader.countStatements();
        if (statements < 1) {
            return -1000 - reader.place;
        }
        mind.takeFrom(now);
        reader.place = 0;
        for (int i = 0; i < statements; i++) {
            int start = reader.place;
            if (!reader.readStatement() || !mind.follows(reader)) {
                return -2000 - start;
            }
        }
        now.takeFrom(mind);
        return statements;
    }

    public int of(int person, int what) {
        Person one = now.personAt(person);
        if (one == null) {
            return NOT_AS_TOLD;
        }
        switch (what) {
            case 0:
                return one.kind;
            case 1:
                return one.stepCount;
            case 2:
                return one.slip;
            case 3:
                return now.rounds == 0 ? NONE : now.cards.at(person);
            default:
                return NOT_AS_TOLD;
        }
    }

    public int set(int what, int n) {
        if (!Game.canBe(what, n)) {
            return NOT_AS_TOLD;
        }
        if (what != Z && now.rounds > 0) {
            return NOT_NOW;
        }
        int was = now.setting(what);
        now.change(what, n);
        return was;
    }

    public int steps(int person, int n) {
        Person one = now.personAt(person);
        if (one == null || !isStepCount(n)) {
            return NOT_AS_TOLD;
        }
        int were = one.stepCount;
        one.stepCount = n;
        return were;
    }

    // ---- rounds

    public int holds(int person) {
        Person one = now.personAt(person);
        if (one == null) {
            return NOT_AS_TOLD;
        }
        return one.holdsByDraw() ? NOT_NOW : now.heldBy(one);
    }

    public int round() {
        if (now.rounds >= MOST_ROUNDS) {
            return NO_ROOM;
        }
        if (now.people == 0) {
            return NOT_NOW;
        }
        now.play();
        return now.rounds;
    }

    public int anew() {
        now.forgetRounds();
        return now.people;
    }

    public int last(int what) {
        if (what < 0 || what > 2) {
            return NOT_AS_TOLD;
        }
        if (now.rounds == 0) {
            return NOT_NOW;
        }
        if (what == 0) {
            return now.lastSum;
        }
        return what == 1 ? now.countWinners(now.cards) : now.firstWinner(now.cards);
    }

    public int target(int part) {
        if (!isOneOfTwo(part)) {
            return NOT_AS_TOLD;
        }
        if (now.rounds == 0) {
            return NOT_NOW;
        }
        return leastPart(now.targetAbove(now.cards), now.targetLine(now.cards), part);
    }

    public int wins(int person, int n) {
        if (now.personAt(person) == null || n < 1 || n > MOST_ROUNDS_IN_MIND) {
            return NOT_AS_TOLD;
        }
        mind.takeFrom(now);
        int won = 0;
        for (int i = 0; i < n; i++) {
            mind.play();
            if (mind.isWinner(mind.cards, person)) {
                won++;
            }
        }
        return won;
    }

    // ---- told cards

    public int mean(int d, int what, int part) {
        Shelf shelf = shelfAt(d);
        if (!isOneOfTwo(what) || !isOneOfTwo(part)) {
            return NOT_AS_TOLD;
        }
        int refusal = cardsRefusal(shelf);
        if (refusal != FINE) {
            return refusal;
        }
        if (what == 0) {
            return leastPart(shelf.row.sum(), shelf.row.size, part);
        }
        return leastPart(now.targetAbove(shelf.row), now.targetLine(shelf.row), part);
    }

    public int winners(int d, int what) {
        Shelf shelf = shelfAt(d);
        if (!isOneOfTwo(what)) {
            return NOT_AS_TOLD;
        }
        int refusal = cardsRefusal(shelf);
        if (refusal != FINE) {
            return refusal;
        }
        return what == 0 ? now.countWinners(shelf.row) : now.firstWinner(shelf.row);
    }

    public int best(int d) {
        Shelf shelf = shelfAt(d);
        int refusal = cardsRefusal(shelf);
        return refusal != FINE ? refusal : now.bestAgainst(shelf.row);
    }

    public int level(int k) {
        return isStepCount(k) ? now.stepped(k) : NOT_AS_TOLD;
    }

    public int stepsOf(int card) {
        return now.isCard(card) ? now.nearestSteps(card) : NOT_AS_TOLD;
    }

    public int shares(int d, int k) {
        Shelf shelf = shelfAt(d);
        if (!isStepCount(k)) {
            return NOT_AS_TOLD;
        }
        int refusal = cardsRefusal(shelf);
        if (refusal != FINE) {
            return refusal;
        }
        int many = 0;
        for (int i = 0; i < shelf.row.size; i++) {
            if (now.nearestSteps(shelf.row.at(i)) == k) {
                many++;
            }
        }
        return many;
    }

    public int words(int d, int e, int what) {
        Shelf told = shelfAt(d);
        Shelf said = shelfAt(e);
        if (!isOneOfTwo(what)) {
            return NOT_AS_TOLD;
        }
        int refusal = twoRowsRefusal(told, said);
        if (refusal != FINE) {
            return refusal;
        }
        if (said.row.sort != BYTES) {
            return OTHER_KIND;
        }
        if (!now.areCards(told.row) || told.row.size != said.row.size) {
            return NO_SUCH_PLACE;
        }
        int same = 0;
        int more = 0;
        for (int i = 0; i < told.row.size; i++) {
            int unlike = said.row.at(i) - now.nearestSteps(told.row.at(i));
            if (unlike == 0) {
                same++;
            } else if (unlike > 0) {
                more++;
            }
        }
        return what == 0 ? same : more;
    }

    public int ahead(int d, int up, int down) {
        Shelf shelf = shelfAt(d);
        if (!Game.canBe(UP, up) || !Game.canBe(DOWN, down)) {
            return NOT_AS_TOLD;
        }
        int refusal = cardsRefusal(shelf);
        if (refusal != FINE) {
            return refusal;
        }
        mind.takeFrom(now);
        mind.up = up;
        mind.down = down;
        int sum = 0;
        for (int i = 0; i < shelf.row.size; i++) {
            sum += mind.stepped(now.nearestSteps(shelf.row.at(i)));
        }
        return sum;
    }

    public long worth(int d, int k) {
        Shelf shelf = shelfAt(d);
        if (k < 0 || k >= MOST_STEPS) {
            return LESS_OF_LONGS + NOT_AS_TOLD;
        }
        int refusal = cardsRefusal(shelf);
        if (refusal != FINE) {
            return LESS_OF_LONGS + refusal;
        }
        int above = leastPart(now.targetAbove(shelf.row), now.targetLine(shelf.row), 0);
        int line = leastPart(now.targetAbove(shelf.row), now.targetLine(shelf.row), 1);
        int farWithout = Math.abs(now.stepped(k) * line - above);
        int farWith = Math.abs(now.stepped(k + 1) * line - above);
        return farWithout - farWith;
    }

    public int jokers(int d, int part) {
        Shelf shelf = shelfAt(d);
        if (!isOneOfTwo(part)) {
            return NOT_AS_TOLD;
        }
        int refusal = cardsRefusal(shelf);
        if (refusal != FINE) {
            return refusal;
        }
        int size = shelf.row.size;
        int sum = shelf.row.sum();
        int others = size - shelf.row.countOf(now.high);
        int sumOfOthers = sum - (size - others) * now.high;
        if (others == 0) {
            return leastPart(now.up * sum, now.down * size, part);
        }
        int above = now.up * (sum * others - sumOfOthers * size);
        return leastPart(above, now.down * size * others, part);
    }

    public int differ(int d, int e) {
        Shelf one = shelfAt(d);
        Shelf other = shelfAt(e);
        int refusal = twoRowsRefusal(one, other);
        if (refusal != FINE) {
            return refusal;
        }
        if (!now.areCards(one.row) || !now.areCards(other.row)) {
            return NO_SUCH_PLACE;
        }
        now.countSteps(one.row, counts);
        now.countSteps(other.row, otherCounts);
        int unlike = 0;
        for (int k = 0; k <= MOST_STEPS; k++) {
            unlike += Math.abs(counts[k] * other.row.size - otherCounts[k] * one.row.size);
        }
        return unlike;
    }

    public int judge(int d) {
        Shelf shelf = shelfAt(d);
        if (shelf == null) {
            return NOT_AS_TOLD;
        }
        if (now.rounds == 0) {
            return NOT_NOW;
        }
        int refusal = rowRefusal(shelf);
        if (refusal != FINE) {
            return refusal;
        }
        int untold = shelf.row.leastNumber();
        for (int i = 0; i < shelf.row.size && i < now.people; i++) {
            int told = shelf.row.at(i);
            if (told != untold && told != now.cards.at(i)) {
                return i;
            }
        }
        return shelf.row.size > now.people ? now.people : NONE;
    }

    // ---- games

    public int ends(int what) {
        if (!isOneOfTwo(what)) {
            return NOT_AS_TOLD;
        }
        int number = now.middle();
        for (int times = 0; times <= MOST_TIMES; times++) {
            int next = now.shareOf(number);
            if (next == number) {
                return what == 0 ? number : times;
            }
            number = next;
        }
        return NONE;
    }

    public int parts(int a, int b, int what) {
        Person one = now.personAt(a);
        Person other = now.personAt(b);
        if (one == null || other == null || a == b || !isOneOfTwo(what)) {
            return NOT_AS_TOLD;
        }
        if (one.holdsByDraw() || other.holdsByDraw()) {
            return NOT_NOW;
        }
        mind.takeFrom(now);
        int mostUnlike = -1;
        int upThen = 0;
        for (int up = 0; up <= MOST_SHARE; up++) {
            mind.up = up;
            int unlike = Math.abs(mind.heldBy(one) - mind.heldBy(other));
            if (unlike > mostUnlike) {
                mostUnlike = unlike;
                upThen = up;
            }
        }
        return what == 0 ? upThen : mostUnlike;
    }

    // ---- the image, what is told

    public int image() {
        kept.takeFrom(now);
        imageTaken = true;
        return now.people;
    }

    public int restore() {
        if (!imageTaken) {
            return NOT_NOW;
        }
        now.takeFrom(kept);
        return now.people;
    }

    public int count(int what) {
        switch (what) {
            case 0:
                return now.people;
            case 1:
                return now.rounds;
            case 2:
                return now.up;
            case 3:
                return now.down;
            case 4:
                return now.high;
            case 5:
                return now.allSteps();
            default:
                return NOT_AS_TOLD;
        }
    }

    // ---- shelves

    public int keep(int d, int what, int k) {
        Shelf shelf = shelfAt(d);
        if (shelf == null || !isOneOfTwo(what)) {
            return NOT_AS_TOLD;
        }
        if (what == 0) {
            shelf.holding = HOLDS_NOTHING;
            return FINE;
        }
        Person one = now.personAt(k);
        if (one == null) {
            return NOT_AS_TOLD;
        }
        shelf.holding = HOLDS_PERSON;
        shelf.person.takeFrom(one);
        return FINE;
    }

    public int row(int d, int sort, int n) {
        Shelf shelf = shelfAt(d);
        if (shelf == null || sort < BYTES || sort > INTS || n > MOST_ELEMENTS) {
            return NOT_AS_TOLD;
        }
        if (n < 0) {
            return SIZE_BELOW_NOUGHT;
        }
        shelf.holding = HOLDS_ROW;
        shelf.row.begin(sort, n);
        return FINE;
    }

    public int put(int d, int i, int v) {
        Shelf shelf = shelfAt(d);
        int refusal = rowRefusal(shelf);
        if (refusal != FINE) {
            return refusal;
        }
        if (!shelf.row.hasPlace(i)) {
            return NO_SUCH_PLACE;
        }
        shelf.row.write(i, v);
        return FINE;
    }

    public long element(int d, int i) throws IllegalArgumentException, IllegalStateException {
        Shelf shelf = shelfAt(d);
        if (shelf == null) {
            throw new IllegalArgumentException("no such shelf");
        }
        if (shelf.holding != HOLDS_ROW) {
            throw new IllegalStateException("no row");
        }
        if (!shelf.row.hasPlace(i)) {
            throw new IllegalStateException("no such place");
        }
        return shelf.row.at(i);
    }

    public int copy(int d, int i, int e, int j, int n) {
        Shelf from = shelfAt(d);
        Shelf to = shelfAt(e);
        int refusal = twoRowsRefusal(from, to);
        if (refusal != FINE) {
            return refusal;
        }
        if (from.row.sort != to.row.sort) {
            return OTHER_KIND;
        }
        if (!from.row.hasPlaces(i, n) || !to.row.hasPlaces(j, n)) {
            return NO_SUCH_PLACE;
        }
        System.arraycopy(from.row.elements, i, to.row.elements, j, n);
        return n;
    }

    public int depth(int d) {
        Shelf shelf = shelfAt(d);
        int refusal = personRefusal(shelf);
        return refusal != FINE ? LESS + refusal : shelf.person.depthOfKind();
    }

    public int toss(int d) {
        Shelf shelf = shelfAt(d);
        int refusal = personRefusal(shelf);
        if (refusal != FINE) {
            return refusal;
        }
        try {
            shelf.person.fail();
        } catch (UnsupportedOperationException learningFailure) {
            return 200 + shelf.person.depthOfKind();
        } catch (IllegalArgumentException mixingFailure) {
            return 100 + shelf.person.number;
        } catch (IllegalStateException plainFailure) {
            return shelf.person.number;
        }
        return NO_FAILURE;
    }

    // ---- what the calls share

    private Shelf shelfAt(int d) {
        return d >= 0 && d < shelves.length ? shelves[d] : null;
    }

    private static int rowRefusal(Shelf shelf) {
        return refusalUnless(shelf, HOLDS_ROW);
    }

    private static int personRefusal(Shelf shelf) {
        return refusalUnless(shelf, HOLDS_PERSON);
    }

    private static int refusalUnless(Shelf shelf, int holding) {
        if (shelf == null) {
            return NOT_AS_TOLD;
        }
        if (shelf.holding == HOLDS_NOTHING) {
            return NOTHING_HELD;
        }
        return shelf.holding == holding ? FINE : OTHER_KIND;
    }

    private static int twoRowsRefusal(Shelf one, Shelf other) {
        if (one == null || other == null) {
            return NOT_AS_TOLD;
        }
        if (one.holding == HOLDS_NOTHING || other.holding == HOLDS_NOTHING) {
            return NOTHING_HELD;
        }
        return one.holding == HOLDS_ROW && other.holding == HOLDS_ROW ? FINE : OTHER_KIND;
    }

    private int cardsRefusal(Shelf shelf) {
        int refusal = rowRefusal(shelf);
        if (refusal != FINE) {
            return refusal;
        }
        return now.areCards(shelf.row) ? FINE : NO_SUCH_PLACE;
    }

    private static boolean isOneOfTwo(int what) {
        return what == 0 || what == 1;
    }

    private static boolean isStepCount(int k) {
        return k >= 0 && k <= MOST_STEPS;
    }

    private static int over(int above, int line) {
        return line == 0 ? 0 : above / line;
    }

    private static int leastPart(int above, int line, int part) {
        return over(part == 0 ? above : line, commonMeasure(above, line));
    }

    private static int commonMeasure(int above, int line) {
        int one = above;
        int other = line;
        for (int i = 0; i < MANY && other != 0; i++) {
            int rest = one % other;
            one = other;
            other = rest;
        }
        return one;
    }

    /** Numbers of one sort; its room is made once, as all calls share one. */
    private static final class Row {
        final int[] elements;
        int sort;
        int size;

        Row(int room) {
            elements = new int[room];
        }

        void begin(int newSort, int newSize) {
            sort = newSort;
            size = newSize < 0 ? 0 : Math.min(newSize, elements.length);
            Arrays.fill(elements, 0);
        }

        void takeFrom(Row other) {
            begin(other.sort, other.size);
            for (int i = 0; i < size; i++) {
                elements[i] = other.at(i);
            }
        }

        boolean hasPlace(int i) {
            return i >= 0 && i < size;
        }

        boolean hasPlaces(int i, int n) {
            return i >= 0 && n >= 0 && i <= size && n <= size - i;
        }

        int at(int i) {
            return i >= 0 && i < size ? elements[i] : 0;
        }

        void write(int i, int v) {
            if (hasPlace(i)) {
                elements[i] = lowestBits(v);
            }
        }

        private int lowestBits(int v) {
            if (sort == BYTES) {
                return (byte) v;
            }
            return sort == SHORTS ? (short) v : v;
        }

        int leastNumber() {
            if (sort == BYTES) {
                return LEAST_BYTE;
            }
            return sort == SHORTS ? LEAST_SHORT : LEAST_INT;
        }

        int sum() {
            int sum = 0;
            for (int i = 0; i < size; i++) {
                sum += elements[i];
            }
            return sum;
        }

        int countOf(int v) {
            int many = 0;
            for (int i = 0; i < size; i++) {
                if (elements[i] == v) {
                    many++;
                }
            }
            return many;
        }
    }

    private static final class Shelf {
        int holding;
        final Row row;
        final Person person;

        Shelf() {
            row = new Row(MOST_ELEMENTS);
            person = new Person();
        }
    }

    private static final class Person {
        int number;
        int kind;
        int stepCount;
        int slip;

        Person() {
        }

        void begin(int newNumber, int newKind, int newStepCount, int newSlip) {
            number = newNumber;
            kind = newKind;
            stepCount = newStepCount;
            slip = newSlip;
        }

        void takeFrom(Person other) {
            begin(other.number, other.kind, other.stepCount, other.slip);
        }

        boolean holdsByDraw() {
            return kind == NOUGHTH || kind == WRONG;
        }

        int depthOfKind() {
            int depthOfPerson = 1;
            int depthOfNoughth = depthOfPerson + slip;
            int depthOfStepping = depthOfPerson + 10 * stepCount;
            switch (kind) {
                case NOUGHTH:
                    return depthOfNoughth;
                case STEPPING:
                    return depthOfStepping;
                case MIXING:
                    return 2 * depthOfStepping;
                case ENDED:
                    return depthOfPerson + 90;
                case JOKING:
                    return depthOfPerson - slip;
                case LEARNING:
                    return depthOfStepping + 5;
                case WRONG:
                    return depthOfNoughth / 2;
                default:
                    return depthOfPerson;
            }
        }

        /** Throws by a class of its own for each way in which a failure tells its number; else comes back. */
        void fail() {
            if (kind == ENDED || kind == JOKING || stepCount == 0) {
                return;
            }
            if (kind == LEARNING) {
                throw new UnsupportedOperationException("a learning one failed");
            }
            if (kind == MIXING) {
                throw new IllegalArgumentException("a mixing one failed");
            }
            throw new IllegalStateException("a person failed");
        }
    }

    /** All that there is but shelves, so that an image and what is tried in mind are games too. */
    private static final class Game {
        int up;
        int down;
        int high;
        int prize;
        int z;
        int rounds;
        int people;
        final Person[] persons;
        final Row cards;
        /** Stands while a round is written, when the cards are partly new. */
        int lastSum;

        Game() {
            up = 2;
            down = 3;
            high = 100;
            prize = NEAREST;
            z = 1;
            persons = new Person[MOST_PEOPLE];
            for (int i = 0; i < MOST_PEOPLE; i++) {
                persons[i] = new Person();
            }
            cards = new Row(MOST_PEOPLE);
        }

        void takeFrom(Game other) {
            up = other.up;
            down = other.down;
            high = other.high;
            prize = other.prize;
            z = other.z;
            rounds = other.rounds;
            people = other.people;
            for (int i = 0; i < persons.length && i < other.persons.length; i++) {
                persons[i].takeFrom(other.persons[i]);
            }
            cards.takeFrom(other.cards);
            lastSum = other.lastSum;
        }

        Person personAt(int i) {
            return i >= 0 && i < people && i < persons.length ? persons[i] : null;
        }

        int allSteps() {
            int all = 0;
            for (int i = 0; i < people && i < persons.length; i++) {
                all += persons[i].stepCount;
            }
            return all;
        }

        static boolean canBe(int what, int n) {
            switch (what) {
                case UP:
                    return n >= 0 && n <= MOST_SHARE;
                case DOWN:
                    return n >= 1 && n <= MOST_SHARE;
                case HIGH:
                    return n >= 1 && n <= MOST_HIGH;
                case PRIZE:
                    return isOneOfTwo(n);
                default:
                    return what == Z;
            }
        }

        int setting(int what) {
            switch (what) {
                case UP:
                    return up;
                case DOWN:
                    return down;
                case HIGH:
                    return high;
                case PRIZE:
                    return prize;
                default:
                    return z;
            }
        }

        void change(int what, int n) {
            switch (what) {
                case UP:
                    up = n;
                    break;
                case DOWN:
                    down = n;
                    break;
                case HIGH:
                    high = n;
                    break;
                case PRIZE:
                    prize = n;
                    break;
                default:
                    z = n;
                    break;
            }
        }

        /** Whether the statement that was read could be done, and was. */
        boolean follows(Reader reader) {
            if (rounds > 0) {
                return false;
            }
            switch (reader.letter) {
                case 'p':
                    return addPerson(reader.first, reader.second, reader.third);
                case 'g':
                    return changeIfCanBe(UP, reader.first) && changeIfCanBe(DOWN, reader.second);
                case 'h':
                    return changeIfCanBe(HIGH, reader.first);
                case 'b':
                    return changeIfCanBe(PRIZE, BELOW);
                default:
                    return changeIfCanBe(PRIZE, NEAREST);
            }
        }

        private boolean changeIfCanBe(int what, int n) {
            if (!canBe(what, n)) {
                return false;
            }
            change(what, n);
            return true;
        }

        private boolean addPerson(int kind, int stepCount, int slip) {
            if (kind < PERSON || kind > WRONG || !isStepCount(stepCount) || slip > MOST_SLIP || people >= persons.length) {
                return false;
            }
            persons[people].begin(people, kind, stepCount, slip);
            people++;
            return true;
        }

        private int drawBelow(int n) {
            z = z * 1103515245 + 12345;
            int drawn = (z & 0x7fffffff) / 65536;
            return n < 1 ? 0 : drawn % n;
        }

        private int heldToCards(int number) {
            if (number < 0) {
                return 0;
            }
            return number > high ? high : number;
        }

        int middle() {
            return high / 2;
        }

        int shareOf(int number) {
            return heldToCards(over(up * number, down));
        }

        int stepped(int k) {
            return sharedTimes(middle(), k);
        }

        private int sharedTimes(int start, int times) {
            int number = start;
            for (int i = 0; i < times; i++) {
                number = shareOf(number);
            }
            return number;
        }

        private int mixed(int k) {
            int number = middle();
            int sum = 0;
            for (int i = 1; i <= k; i++) {
                sum += number;
                number = shareOf(over(sum, i));
            }
            return number;
        }

        private int learned(int k) {
            if (rounds == 0) {
                return sharedTimes(middle(), k);
            }
            return sharedTimes(over(lastSum, people), k == 0 ? 1 : k);
        }

        /** Draws for those who hold by a draw. */
        int heldBy(Person person) {
            switch (person.kind) {
                case NOUGHTH:
                    return drawBelow(high + 1);
                case STEPPING:
                    return stepped(person.stepCount);
                case MIXING:
                    return mixed(person.stepCount);
                case ENDED:
                    return up <= down ? 0 : high;
                case JOKING:
                    return high;
                case LEARNING:
                    return learned(person.stepCount);
                case WRONG:
                    return heldToCards(drawBelow(high + 1) / 2 + middle());
                default:
                    return middle();
            }
        }

        private int cardOf(Person person) {
            int held = heldBy(person);
            if (person.slip == 0) {
                return held;
            }
            return heldToCards(held + drawBelow(2 * person.slip + 1) - person.slip);
        }

        void play() {
            cards.begin(INTS, people);
            for (int i = 0; i < people && i < persons.length; i++) {
                cards.write(i, cardOf(persons[i]));
            }
            lastSum = cards.sum();
            rounds++;
        }

        void forgetRounds() {
            rounds = 0;
            lastSum = 0;
            cards.begin(INTS, 0);
        }

        boolean isCard(int number) {
            return number >= 0 && number <= high;
        }

        boolean areCards(Row row) {
            for (int i = 0; i < row.size; i++) {
                if (!isCard(row.at(i))) {
                    return false;
                }
            }
            return row.size > 0;
        }

        int targetAbove(Row row) {
            return up * row.sum();
        }

        int targetLine(Row row) {
            return down * row.size;
        }

        /** How far a card is from winning. */
        private int farFrom(int above, int line, int card) {
            int more = card * line - above;
            if (more > 0) {
                return prize == BELOW ? NEVER : more;
            }
            return -more;
        }

        int firstWinner(Row row) {
            int above = targetAbove(row);
            int line = targetLine(row);
            int first = NONE;
            int least = NEVER;
            for (int i = 0; i < row.size; i++) {
                int far = farFrom(above, line, row.at(i));
                if (far < least) {
                    least = far;
                    first = i;
                }
            }
            return first;
        }

        int countWinners(Row row) {
            int first = firstWinner(row);
            if (first == NONE) {
                return 0;
            }
            int above = targetAbove(row);
            int line = targetLine(row);
            int least = farFrom(above, line, row.at(first));
            int many = 0;
            for (int i = 0; i < row.size; i++) {
                if (farFrom(above, line, row.at(i)) == least) {
                    many++;
                }
            }
            return many;
        }

        boolean isWinner(Row row, int i) {
            int first = firstWinner(row);
            if (first == NONE || !row.hasPlace(i)) {
                return false;
            }
            int above = targetAbove(row);
            int line = targetLine(row);
            return farFrom(above, line, row.at(i)) == farFrom(above, line, row.at(first));
        }

        /** One more card moves the target, so below it the greatest need not be the least far. */
        int bestAgainst(Row row) {
            int line = down * (row.size + 1);
            int sum = row.sum();
            int best = 0;
            int least = NEVER;
            for (int card = 0; card <= high; card++) {
                int far = farFrom(up * (sum + card), line, card);
                if (far < least || prize == BELOW && far != NEVER) {
                    least = far;
                    best = card;
                }
            }
            return best;
        }

        int nearestSteps(int card) {
            int level = middle();
            int least = Math.abs(card - level);
            int nearest = 0;
            for (int k = 1; k <= MOST_STEPS; k++) {
                level = shareOf(level);
                int far = Math.abs(card - level);
                if (far < least) {
                    least = far;
                    nearest = k;
                }
            }
            return nearest;
        }

        void countSteps(Row row, int[] many) {
            Arrays.fill(many, 0);
            for (int i = 0; i < row.size; i++) {
                int k = nearestSteps(row.at(i));
                if (k < many.length) {
                    many[k]++;
                }
            }
        }
    }

    /** Reads a crowd's statements; where one can't go on, place stays at the byte that stopped it. */
    private static final class Reader {
        final Row text;
        int place;
        int letter;
        int first;
        int second;
        int third;
        private int number;

        Reader(Row bytes) {
            text = bytes;
        }

        /** How many statements the text has, or 0 where it is no crowd. */
        int countStatements() {
            int many = 0;
            for (int i = 0; i < MOST_ELEMENTS; i++) {
                if (!readStatement()) {
                    return 0;
                }
                many++;
                if (place >= text.size) {
                    return many;
                }
            }
            return many;
        }

        boolean readStatement() {
            letter = text.at(place);
            switch (letter) {
                case 'p':
                    return takes('p') && readPerson() && takes(';');
                case 'g':
                    return takes('g') && readShare() && takes(';');
                case 'h':
                    return takes('h') && readHigh() && takes(';');
                case 'b':
                case 'n':
                    return takes(letter) && takes(';');
                default:
                    return false;
            }
        }

        private boolean readPerson() {
            if (!takesDigit()) {
                return false;
            }
            first = number;
            if (!takes(' ') || !takesDigit()) {
                return false;
            }
            second = number;
            if (!takes(' ') || !takesNumber()) {
                return false;
            }
            third = number;
            return true;
        }

        private boolean readShare() {
            if (!takesNumber()) {
                return false;
            }
            first = number;
            if (!takes('/') || !takesNumber()) {
                return false;
            }
            second = number;
            return true;
        }

        private boolean readHigh() {
            if (!takesNumber()) {
                return false;
            }
            first = number;
            return true;
        }

        private boolean takes(int sign) {
            if (!text.hasPlace(place) || text.at(place) != sign) {
                return false;
            }
            place++;
            return true;
        }

        private boolean takesDigit() {
            int sign = text.at(place);
            if (sign < '0' || sign > '9') {
                return false;
            }
            number = sign - '0';
            place++;
            return true;
        }

        private boolean takesNumber() {
            if (!takesDigit()) {
                return false;
            }
            int sofar = number;
            for (int i = 1; i < MOST_DIGITS && sofar != 0 && takesDigit(); i++) {
                sofar = sofar * 10 + number;
            }
            number = sofar;
            return true;
        }
    }
}
