/** Promises 14 to 17: round, spoons, drawn, odds. */
public final class RoundsTest {
    private static final Check check = new Check("RoundsTest");

    public static void main(String[] args) {
        roundOfMostWorth();
        roundByOthers();
        roundFromHere();
        roundIsKeptUpToDate();
        spoons();
        spoonsBySwapping();
        drawn();
        odds();
        check.finish();
    }

    private static void roundOfMostWorth() {
        check.dueRound("both, the sooner order",
            Check.port("o0;p0;p10;d1 10 0 99 4;d0 5 0 99 3;"), 7, 10, 1, 0);
        check.dueRound("of equal WORTH the sooner", Check.port("o0;p0;d0 5 0 9 4;d0 3 0 9 4;"), 4, 3, 1);
        check.dueRound("of one hour the first", Check.port("o5;p5;d0 7 0 9 4;d0 3 0 9 4;"), 4, 2, 0);
        check.dueRound("WORTH ahead of hours", Check.port("o0;p0;d0 0 0 9 4;d0 9 0 9 5;"), 5, 9, 1);
        check.dueRound("one of more WORTH rather than two",
            Check.port("o0;p0;p0;d0 1 0 2 4;d1 2 0 9 4;d0 9 9 9 9;"), 9, 9, 2);
    }

    private static void roundByOthers() {
        check.dueRound("not the same one twice in a row",
            Check.port("o0;p0;d0 0 0 9 3;d0 1 0 9 4;"), 4, 1, 1);
        check.dueRound("but with another one between",
            Check.port("o0;p0;p0;d0 0 0 9 3;d0 0 0 9 4;d1 0 0 9 1;"), 8, 0, 0, 2, 1);
        check.dueRound("he stays where he did the one ahead",
            Check.port("o10;p10;p20;d0 12 0 99 1;d1 20 0 99 1;d0 13 0 99 1;"), 3, 18, 2, 1, 0);
    }

    private static void roundFromHere() {
        LentCourage x = Check.port("o0;p0;p9;d0 0 0 99 1;d0 2 0 99 5;");
        x.lends(0);
        check.dueRound("who HOLDS it FRESH", x, 5, 2, 1);
        x.does(0);
        check.dueRound("who HOLDS it, not FRESH", x, 0, 0);
        x.brings();
        check.dueRound("lent anew by the drawer", x, 5, 2, 1);
        x.lends(0);
        x.walks(1);
        check.dueRound("from where he is", x, 5, 2, 1);
        x.walks(30);
        check.dueRound("from farther off", x, 5, 58, 1);
        x.lends(0);
        check.due("he HOLDS it already", x.now(3), 30);
    }

    private static void roundIsKeptUpToDate() {
        LentCourage x = Check.port("o0;p0;p0;d0 0 0 1 3;d1 4 0 9 2;");
        check.dueRound("at first", x, 5, 4, 0, 1);
        x.keep(0);
        x.lends(0);
        x.keeps(2);
        check.dueRound("later", x, 2, 6, 1);
        x.undo();
        check.dueRound("undone", x, 5, 4, 0, 1);
        x.does(0);
        check.dueRound("one DONE", x, 2, 4, 1);
        x.back(0);
        check.dueRound("back", x, 5, 4, 0, 1);
        Check.read(x, "o1;p1;d0 1 0 0 8;");
        check.dueRound("read anew", x, 8, 0, 0);
    }

    private static void spoons() {
        check.dueSpoons("", 0);
        check.dueSpoons("p4;", 0);
        check.dueSpoons("o0;p0;p0;d0 0 5 9 1;d1 0 5 9 1;", 1);
        check.dueSpoons("o0;p0;d0 0 5 9 1;d0 0 6 9 1;", 2);
        check.dueSpoons("o0;p0;p0;d0 5 5 9 1;d1 5 14 99 1;", 2);
        check.dueSpoons("o0;p0;p0;d0 5 5 9 1;d1 5 15 99 1;", 1);
        check.dueSpoons("o0;p0;p0;d0 5 15 99 1;d1 5 5 9 1;", 1);
        check.dueSpoons("o0;p0;p0;d0 0 5 9 1;d1 0 6 9 1;", 1);
        check.dueSpoons("o0;p0;d0 5 4 9 1;", -9);
        check.dueSpoons("o9;p7;p12;d0 8 3 9 1;d1 11 8 9 1;", 1);
        check.dueSpoons("o9;p7;p12;d0 8 3 9 1;d1 11 7 9 1;", 2);
        check.dueSpoons("o0;p0;d0 5 5 9 1;", 1);
        check.dueSpoons("o5;p0;d0 5 9 9 1;", -9);
        check.dueSpoons("o5;p0;d0 5 10 10 1;", 1);
        check.dueSpoons("o0;p0;p0;p0;d0 0 0 0 1;d1 0 0 0 1;d2 0 0 0 1;d0 0 0 0 1;", 1);
        LentCourage x = Check.port("o0;p0;d0 0 0 9 1;d0 0 6 9 1;");
        x.lends(0);
        x.does(0);
        check.due("spoons for DONE ones, too", x.spoons(), 2);
    }

    private static void spoonsBySwapping() {
        // DEED 0 goes to 2 or 3, DEED 1 to 2 alone: the first choice of 0 must give way.
        check.dueSpoons("o0;p0;p0;d0 0 0 9 1;d0 5 5 9 1;d1 0 10 19 1;d1 0 9 19 1;", 2);
        // All DEEDS of one hour and place by two in turn: one chain; by one of them mostly: more.
        check.dueSpoons("o0;p0;p0;" + "d0 0 7 9 1;d1 0 7 9 1;".repeat(4), 1);
        check.dueSpoons("o0;p0;p0;d1 0 0 9 1;" + "d0 0 7 9 1;".repeat(4), 4);
        check.dueSpoons("o0;p0;p0;" + "d0 0 7 9 1;".repeat(4) + "d1 0 7 9 1;".repeat(4), 4);
        check.dueSpoons("o0;p0;p0;" + "d0 0 7 9 1;".repeat(5) + "d1 0 7 9 1;".repeat(2), 5);
        // One chain, by FROM: 1, 4, 3, 0, 2, 5, 6; many choices must give way for it.
        check.dueSpoons("o0;p0;p0;p0;d0 0 30 99 1;d0 0 20 99 1;d2 0 38 99 1;d1 0 27 99 1;d2 0 21 99 1;"
            + "d1 0 40 99 1;d0 0 40 99 1;", 1);
        // Where choices give way in a circle, none may be counted twice.
        check.dueSpoons("o1;p3;p7;p0;d2 8 44 99 1;d0 4 16 99 1;d2 3 44 99 1;d1 6 20 99 1;d1 5 33 99 1;"
            + "d1 5 27 99 1;", 3);
        check.dueSpoons("o1;p2;p3;p1;p3;d0 2 42 99 1;d2 0 15 99 1;d0 2 56 99 1;d1 1 38 99 1;d1 3 52 99 1;"
            + "d3 3 38 99 1;", 2);
        check.dueSpoons("o0;p1;p4;p3;d2 1 19 99 1;d1 2 15 99 1;d0 0 17 99 1;d2 2 16 99 1;d1 3 17 99 1;"
            + "d0 1 18 99 1;d1 1 15 99 1;d1 3 20 99 1;", 4);
        check.dueSpoons("o0;p0;p2;p0;d1 0 23 99 1;d2 1 57 99 1;d0 0 43 99 1;d2 1 26 99 1;d1 2 50 99 1;"
            + "d0 0 38 99 1;", 2);
    }

    private static void drawn() {
        LentCourage x = Check.port("o0;p0;p0;d0 0 0 9 7;d1 0 0 9 9;");
        check.due("74 of 2", x.drawn(0, 1), 7);
        check.due("149 of 2", x.drawn(1, 1), 9);
        check.due("28781 of 2", x.drawn(99999, 1), 9);
        check.due("65537 is as 0", x.drawn(65537, 1), 7);
        check.due("each once", x.drawn(1, 20), 16);
        LentCourage more = Check.port("o0;p0;p0;p0;d0 0 0 9 1;d1 0 0 9 2;d2 0 0 9 4;d1 0 0 9 8;d2 0 0 9 16;");
        for (int seed = 0; seed < 100; seed++) {
            check.due("each of five once at most, by " + seed, more.drawn(seed, 20) <= 31 ? 1 : 0, 1);
        }
        x.lends(0);
        x.does(0);
        check.due("DONE isn't drawn", x.drawn(0, 1), 0);
        LentCourage same = Check.port("o0;p0;d0 0 0 9 7;d0 0 0 9 9;");
        check.due("not the same one twice in a row", same.drawn(1, 20), 9);
        check.due("too late", Check.port("o0;p0;d0 9 0 8 7;").drawn(1, 20), 0);
    }

    private static void odds() {
        LentCourage x = Check.port("o0;p0;d0 0 0 9 7;d0 0 0 9 9;");
        check.dueOdds(x, 5, 0, 1, 4);
        check.dueOdds(x, 5, 1, 3, 4);
        check.dueOdds(x, 4, 1, 21, 25);
        x.lends(0);
        x.does(0);
        check.dueOdds(x, 3, 0, 7, 10);
    }
}
