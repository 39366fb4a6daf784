/** The boundaries that "2 A CROWD" names: what may go on, numbers, faults and their places, no room, a round that was. */
public final class BoundaryCrowdTest {
    private static final String DIGITS = "0123456789";
    private static final String LETTERS = "pghbn";
    private static final String P = "p0 0 0;";

    public static void main(String[] args) {
        everyNextByte();
        numbers();
        endsTooEarly();
        faultsOfTheSecondKind();
        noRoom();
        aRoundWas();
        whichFaultIsTold();
        allOrNothing();
        theRow();
        Due.end("BoundaryCrowdTest");
    }

    /** Behind what is written so far: the bytes with which a crowd can go on. */
    private static final String[][] CAN_GO_ON = {
        {"", LETTERS},
        {"p", DIGITS}, {"p0", " "}, {"p9", " "}, {"p0 ", DIGITS}, {"p0 0", " "}, {"p0 9", " "}, {"p0 0 ", DIGITS},
        {"p0 0 0", ";"}, {"p0 0 1", DIGITS + ";"}, {"p0 0 9", DIGITS + ";"}, {"p0 0 10", DIGITS + ";"},
        {"p0 0 100", DIGITS + ";"}, {"p0 0 1000", ";"}, {"p0 0 9999", ";"},
        {"g", DIGITS}, {"g0", "/"}, {"g1", DIGITS + "/"}, {"g9", DIGITS + "/"}, {"g10", DIGITS + "/"},
        {"g100", DIGITS + "/"}, {"g1000", "/"}, {"g0/", DIGITS}, {"g1000/", DIGITS}, {"g0/0", ";"},
        {"g0/1", DIGITS + ";"}, {"g0/9", DIGITS + ";"}, {"g0/10", DIGITS + ";"}, {"g0/100", DIGITS + ";"},
        {"g0/1000", ";"}, {"g1000/1000", ";"},
        {"h", DIGITS}, {"h0", ";"}, {"h1", DIGITS + ";"}, {"h9", DIGITS + ";"}, {"h10", DIGITS + ";"},
        {"h100", DIGITS + ";"}, {"h1000", ";"}, {"b", ";"}, {"n", ";"},
    };

    private static void everyNextByte() {
        Due.sentence("FAULT: kind 1 the place of the first byte with which no CROWD can go on");
        for (String[] one : CAN_GO_ON) {
            everyNextByte(one[0], one[1]);
            everyNextByte("b;" + one[0], one[1]);
            everyNextByte(P + one[0], one[1]);
        }
    }

    private static void everyNextByte(String sofar, String goOn) {
        TwoThirds x = null;
        for (int v = -128; v < 128; v++) {
            boolean canGoOn = v > 0 && goOn.indexOf((char) v) >= 0;
            if (canGoOn && v == ';') {
                continue;
            }
            if (x == null || v % 64 == 0) {
                x = new TwoThirds();
                Due.write(x, 0, sofar + "?");
            }
            x.put(0, sofar.length(), v);
            int due = canGoOn ? -1000 - sofar.length() - 1 : -1000 - sofar.length();
            Due.same("crowd " + sofar + " and byte " + v, x.crowd(0), due);
        }
        TwoThirds y = new TwoThirds();
        Due.write(y, 0, sofar + ";");
        int answer = y.crowd(0);
        boolean ends = goOn.indexOf(';') >= 0;
        // With ; behind it is a statement more, or one that isn't as told, but no fault of kind 1.
        boolean asDue = ends ? answer > 0 || answer <= -2000 : answer == -1000 - sofar.length();
        Due.same("crowd " + sofar + "; is as due, " + answer, asDue ? 1 : 0, 1);
    }

    private static void refused(String text, int due) {
        Due.crowd(new TwoThirds(), text, due);
    }

    private static void numbers() {
        Due.sentence("NUMBERS (SLIP, UP, DOWN, HIGH) have 1 to 4 digits");
        String[][] statements = {{"p0 0 ", ";"}, {"g", "/1;"}, {"g1/", ";"}, {"h", ";"}};
        for (String[] around : statements) {
            int place = around[0].length();
            refused(around[0] + around[1], -1000 - place);
            Due.crowd(new TwoThirds(), around[0] + "1" + around[1], 1);
            Due.crowd(new TwoThirds(), around[0] + "20" + around[1], 1);
            refused(around[0] + "9999" + around[1], -2000);
            refused(around[0] + "1001" + around[1], -2000);
            refused(around[0] + "10000" + around[1], -1000 - place - 4);
            refused(around[0] + "99999" + around[1], -1000 - place - 4);
            refused(around[0] + "-1" + around[1], -1000 - place);
            refused(around[0] + "+1" + around[1], -1000 - place);
            refused(around[0] + " 1" + around[1], -1000 - place);
        }
        Due.crowd(new TwoThirds(), "h100;h1000;h10;h1;", 4);
        Due.sentence("no 0 ahead of another");
        for (String[] around : statements) {
            int place = around[0].length();
            for (String number : new String[] {"00", "01", "020", "0001", "0000"}) {
                refused(around[0] + number + around[1], -1000 - place - 1);
            }
            Due.crowd(new TwoThirds(), around[0] + "10" + around[1], 1);
        }
        Due.crowd(new TwoThirds(), "p0 0 0;g0/1;", 2);
        refused("g1/0;", -2000);
        refused("h0;", -2000);
        Due.sentence("KIND (a digit), STEPS (a digit)");
        Due.crowd(new TwoThirds(), "p0 0 0;p7 9 0;p0 9 0;", 3);
        refused("p10 0 0;", -1002);
        refused("p0 10 0;", -1004);
        refused("p00 0 0;", -1002);
        refused("p0 00 0;", -1004);
        refused("p 0 0;", -1001);
        refused("p0  0;", -1003);
    }

    private static void endsTooEarly() {
        Due.sentence("the size, if it ends too early");
        String text = "b;p7 9 20;g20/19;h1000;n;";
        for (int size = 0; size <= text.length(); size++) {
            TwoThirds x = new TwoThirds();
            String sofar = text.substring(0, size);
            int statements = (int) sofar.chars().filter(sign -> sign == ';').count();
            boolean whole = sofar.endsWith(";");
            Due.crowd(x, sofar, whole ? statements : -1000 - size);
        }
        StringBuilder full = new StringBuilder("h1;p");
        while (full.length() < 100) {
            full.insert(0, "n;");
        }
        refused(full.toString(), -1100);
        Due.sentence("At least one STATEMENT");
        refused("", -1000);
        Due.crowd(new TwoThirds(), "n;", 1);
        refused(";", -1000);
        Due.sentence("STATEMENTS, each with ; behind");
        refused("b", -1001);
        refused("bn;", -1001);
        refused("b;n", -1003);
        refused("b;;", -1002);
        refused(";b;", -1000);
        refused("b;\n", -1002);
    }

    private static void faultsOfTheSecondKind() {
        Due.sentence("kind 2 the place of the letter of the first STATEMENT that isn't as told (a number out of range)");
        String[] asTold = {
            "p0 0 0;", "p7 9 20;", "g0/1;", "g20/20;", "h1;", "h1000;", "b;", "n;",
        };
        String[] notAsTold = {
            "p8 0 0;", "p9 0 0;", "p0 0 21;", "p0 0 9999;", "g21/1;", "g9999/1;", "g0/0;", "g0/21;", "g0/9999;", "g21/0;",
            "h0;", "h1001;", "h9999;",
        };
        for (String fine : asTold) {
            Due.crowd(new TwoThirds(), fine, 1);
            Due.crowd(new TwoThirds(), fine + fine, 2);
        }
        for (String wrong : notAsTold) {
            refused(wrong, -2000);
            refused("b;" + wrong, -2002);
            refused(wrong + "b;", -2000);
            refused("p7 9 20;" + wrong + "b;", -2008);
            refused("n;g1/1;" + wrong + wrong, -2007);
        }
        Due.sentence("-1000 times the kind less the place");
        StringBuilder last = new StringBuilder("h1;");
        while (last.length() < 97) {
            last.append("b;");
        }
        refused(last + "h0;", -2097);
        refused(last + "h1x", -1099);
        refused(last + "hh;", -1098);
        Due.crowd(new TwoThirds(), last + "h2;", 49);
        StringBuilder all = new StringBuilder();
        for (int i = 0; i < 50; i++) {
            all.append(i % 2 == 0 ? "b;" : "n;");
        }
        Due.crowd(new TwoThirds(), all.toString(), 50);
        all.setCharAt(99, ':');
        refused(all.toString(), -1099);
    }

    private static void noRoom() {
        Due.sentence("no room");
        Due.crowd(new TwoThirds(), P.repeat(12), 12);
        refused(P.repeat(13), -2084);
        refused(P.repeat(14), -2084);
        TwoThirds x = Due.with(P.repeat(11), 11);
        Due.crowd(x, P + P, -2007);
        Due.same("count(0)", x.count(0), 11);
        Due.crowd(x, "b;" + P + "n;" + P, -2011);
        Due.same("count(0)", x.count(0), 11);
        Due.crowd(x, P, 1);
        Due.crowd(x, P, -2000);
        Due.crowd(x, "b;" + P, -2002);
        Due.crowd(x, "b;h7;g1/2;n;", 4);
        Due.same("count(0)", x.count(0), 12);
        TwoThirds round = Due.with(P.repeat(12), 12);
        round.round();
        round.anew();
        Due.crowd(round, P, -2000);
    }

    private static void aRoundWas() {
        Due.sentence("a ROUND was");
        String[] statements = {P, "g2/3;", "h100;", "b;", "n;"};
        for (String statement : statements) {
            TwoThirds x = Due.with(P, 1);
            Due.crowd(x, statement, 1);
            x.round();
            String before = Seen.now(x);
            Due.crowd(x, statement, -2000);
            Due.crowd(x, "n;" + statement, -2000);
            Due.sameText("nothing comes", Seen.now(x), before);
            x.anew();
            Due.crowd(x, statement, 1);
        }
        TwoThirds x = Due.with(P, 1);
        x.image();
        x.round();
        Due.crowd(x, P, -2000);
        x.restore();
        Due.crowd(x, P, 1);
    }

    private static void whichFaultIsTold() {
        Due.sentence("kind 1 (of any place) goes ahead of kind 2");
        refused("h0;x", -1003);
        refused("h0;h0", -1005);
        refused("p8 0 0;b", -1008);
        refused("b;h0;b;n", -1008);
        refused(P.repeat(13) + "x", -1091);
        TwoThirds x = Due.with(P, 1);
        x.round();
        Due.crowd(x, "n;n", -1003);
        Due.crowd(x, "", -1000);
        Due.sentence("STATEMENTS are tried one behind the other, and the first that can't be done so is told");
        refused("h1;h0;g0/0;", -2003);
        refused("g0/0;h0;", -2000);
        refused(P.repeat(12) + "h0;" + P, -2084);
        refused(P.repeat(12) + P + "h0;", -2084);
        refused("h1001;h1;", -2000);
    }

    private static void allOrNothing() {
        Due.sentence("Without FAULT all of it comes");
        TwoThirds x = Due.with("b;p3 4 5;g19/20;p6 0 20;h999;", 5);
        int[] counts = {2, 0, 19, 20, 999, 4};
        for (int what = 0; what < counts.length; what++) {
            Due.same("count(" + what + ")", x.count(what), counts[what]);
        }
        int[][] people = {{3, 4, 5, -4}, {6, 0, 20, -4}};
        for (int person = 0; person < 2; person++) {
            for (int what = 0; what < 4; what++) {
                Due.same("of(" + person + ", " + what + ")", x.of(person, what), people[person][what]);
            }
        }
        Due.same("prize", x.set(3, 1), 1);
        Due.same("z is as it was", Due.zOf(x), 1);
        Due.crowd(x, "n;b;n;h1;h2;g1/1;g0/20;", 7);
        Due.same("the last of several", x.count(4), 2);
        Due.same("the last of several", x.count(2), 0);
        Due.same("the last of several", x.count(3), 20);
        Due.same("the last of several", x.set(3, 0), 0);
        Due.sentence("with one nothing");
        String[] faulty = {
            "b;p3 4 5;g19/20;h999;h0;", "b;p3 4 5;g19/20;h999;g1/0;", "b;p3 4 5;g19/20;h999;g21/1;",
            "b;p3 4 5;g19/20;h999;p8 0 0;", "b;p3 4 5;g19/20;h999;p0 0 21;", "b;p3 4 5;g19/20;h999;n",
            "b;p3 4 5;g19/20;h999;;", "b;p3 4 5;g19/20;h999;" + P.repeat(11), "h0;b;p3 4 5;g19/20;h999;",
        };
        for (String text : faulty) {
            TwoThirds one = Due.with("p2 1 0;p0 0 3;", 2);
            TwoThirds same = Due.with("p2 1 0;p0 0 3;", 2);
            Due.write(one, 0, text);
            Due.write(same, 0, text);
            Due.same("crowd " + text + " is refused", one.crowd(0) < 0 ? 1 : 0, 1);
            Due.sameText("what is seen behind " + text, Seen.everything(one), Seen.everything(same));
        }
    }

    private static void theRow() {
        Due.sentence("The ROW that is read stays there");
        TwoThirds x = new TwoThirds();
        Due.write(x, 0, "h7;" + P);
        String before = Seen.shelves(x);
        Due.same("crowd(0)", x.crowd(0), 2);
        Due.sameText("shelves", Seen.shelves(x), before);
        Due.same("crowd(0) again", x.crowd(0), 2);
        Due.same("count(0)", x.count(0), 2);
        Due.sentence("crowd: -12 (no ROW of bytes)");
        for (int sort = 1; sort < 3; sort++) {
            Due.fill(x, 1, sort, 'b', ';');
            Due.same("crowd of sort " + sort, x.crowd(1), -12);
            Due.fill(x, 1, sort);
            Due.same("crowd of none of sort " + sort, x.crowd(1), -12);
        }
        Due.fill(x, 1, Due.BYTES, 'b', ';');
        Due.same("crowd of bytes", x.crowd(1), 1);
    }
}
