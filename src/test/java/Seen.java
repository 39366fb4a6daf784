/** All that can be seen of an object, as a text, so that two objects can be compared. */
final class Seen {
    private static final int ODD = 0x12345678;

    private Seen() {
    }

    /** The game and the shelves; the object stays as it is. */
    static String now(TwoThirds x) {
        return game(x) + shelves(x);
    }

    /** As now, and then the prize, the image, what a round ahead would bring and the sorts: the object is used up. */
    static String everything(TwoThirds x) {
        StringBuilder seen = new StringBuilder(now(x));
        seen.append(" round ").append(x.round()).append(" z ").append(Due.zOf(x));
        seen.append(" anew ").append(x.anew()).append(" prize ").append(x.set(3, 0));
        seen.append(" image ").append(x.restore()).append(' ').append(game(x));
        seen.append(" anew ").append(x.anew()).append(" prize ").append(x.set(3, 0));
        seen.append(" sorts");
        for (int d = 0; d < 8; d++) {
            x.put(d, 0, ODD);
            seen.append(' ').append(Due.elementOrThrow(x, d, 0));
        }
        return seen.toString();
    }

    static String game(TwoThirds x) {
        StringBuilder seen = new StringBuilder("counts");
        for (int what = 0; what < 6; what++) {
            seen.append(' ').append(x.count(what));
        }
        seen.append(" z ").append(Due.zOf(x));
        int people = x.count(0);
        for (int person = 0; person < people; person++) {
            seen.append(" person");
            for (int what = 0; what < 4; what++) {
                seen.append(' ').append(x.of(person, what));
            }
            seen.append(' ').append(x.holds(person)).append(' ').append(x.wins(person, 20));
        }
        seen.append(" last ").append(x.last(0)).append(' ').append(x.last(1)).append(' ').append(x.last(2));
        return seen.append(" target ").append(x.target(0)).append(' ').append(x.target(1)).toString();
    }

    /** What is told of the rows in shelves, where they are cards. */
    static String toldCards(TwoThirds x) {
        StringBuilder seen = new StringBuilder();
        for (int d = 0; d < 8; d++) {
            seen.append(" shelf ").append(x.mean(d, 0, 0)).append(' ').append(x.mean(d, 0, 1));
            seen.append(' ').append(x.mean(d, 1, 0)).append(' ').append(x.mean(d, 1, 1));
            seen.append(' ').append(x.winners(d, 0)).append(' ').append(x.winners(d, 1)).append(' ').append(x.best(d));
            seen.append(' ').append(x.shares(d, 1)).append(' ').append(x.ahead(d, 4, 3)).append(' ').append(x.worth(d, 1));
            seen.append(' ').append(x.jokers(d, 0)).append(' ').append(x.jokers(d, 1)).append(' ').append(x.judge(d));
            seen.append(' ').append(x.words(d, 4, 0)).append(' ').append(x.words(d, 4, 1)).append(' ').append(x.differ(d, 4));
        }
        seen.append(" levels ").append(x.level(1)).append(' ').append(x.level(9)).append(' ').append(x.stepsOf(100));
        seen.append(" ends ").append(x.ends(0)).append(' ').append(x.ends(1));
        return seen.append(" parts ").append(x.parts(0, 2, 0)).append(' ').append(x.parts(0, 1, 1)).toString();
    }

    static String shelves(TwoThirds x) {
        StringBuilder seen = new StringBuilder();
        for (int d = 0; d < 8; d++) {
            seen.append(" shelf ").append(x.depth(d)).append(' ').append(x.toss(d));
            String element = Due.elementOrThrow(x, d, 0);
            for (int i = 1; i <= 100 && !element.startsWith("java"); i++) {
                seen.append(' ').append(element);
                element = Due.elementOrThrow(x, d, i);
            }
        }
        return seen.toString();
    }
}
