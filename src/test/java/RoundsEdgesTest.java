/** Part 3 of the document and promises 14 to 17: a test for each sentence that names an edge. */
public final class RoundsEdgesTest {
    private static final Check check = new Check("RoundsEdgesTest");
    private static final String LAST_OF_SIX = "o0;p0;p0;p0;p0;p0;p0;d0 0 0 9 1;d1 0 0 9 2;d2 0 0 9 3;"
        + "d3 0 0 9 4;d4 0 0 9 5;d0 0 0 9 6;d1 0 0 9 7;d5 0 0 9 8;";

    public static void main(String[] args) {
        numbersOfRound();
        roundOfNone();
        roundOfAll();
        roundLeavesOutWhatIsDone();
        roundFromWhereTheSpoonIs();
        roundToWhereHeIsByThen();
        roundNotByTheOneAhead();
        roundFirstByWhoHoldsItFresh();
        roundWaitsTillFrom();
        roundByTill();
        roundUpToHour99();
        roundOfMostWorth();
        roundDoneSoonest();
        roundOfTheFirstNumbers();
        spoonsOfNone();
        spoonsFromTheOffice();
        spoonsToLaterDeeds();
        spoonsOfOneFrom();
        spoonsOfUnlikeWho();
        spoonsOfTheDoneToo();
        spoonsFromHomeAgain();
        numbersOfDrawn();
        drawnOfNone();
        drawnByLots();
        drawnTwentyTimes();
        drawnOfAllDeeds();
        drawnOnAWay();
        drawnOneBehindAnother();
        drawnAgainWhenItCanBe();
        drawnFromNow();
        numbersOfOdds();
        oddsOfNone();
        oddsOfNoFailureAndOfAll();
        oddsOfEight();
        oddsInLeastTerms();
        oddsOfWhatIsNotDone();
        check.finish();
    }

    // round: "BAD (k -3 .. 7)"
    private static void numbersOfRound() {
        LentCourage[] ports = {new LentCourage(), Check.port("o0;p0;d0 0 0 9 1;")};
        for (LentCourage x : ports) {
            check.due("round(-4)", x.round(-4), -1);
            check.due("round(8)", x.round(8), -1);
            check.due("round(-3)", x.round(-3), x.count(1));
            check.due("round(7)", x.round(7), -9);
        }
    }

    // "(the empty one, too)"; "(NOW for none)"; round: "NONE (not so many)"
    private static void roundOfNone() {
        check.dueRound("new", new LentCourage(), 0, 0);
        check.dueRound("no DEEDS", Check.port("p1;"), 0, 0);
        check.dueRound("none in time", Check.port("o0;p0;d0 1 0 0 20;"), 0, 0);
        LentCourage x = Check.port("o0;p0;d0 0 0 9 4;");
        x.lends(0);
        x.does(0);
        x.keeps(3);
        check.dueRound("all are DONE", x, 0, 3);
        LentCourage late = Check.port("o0;p0;d0 0 0 9 4;");
        late.lends(0);
        late.keeps(10);
        check.dueRound("all are too late", late, 0, 10);
    }

    // "DEEDS (8 at most)"; round: "the k-th DEED"
    private static void roundOfAll() {
        LentCourage x = Check.port("o0;p0;p0;" + "d0 0 0 9 20;d1 0 0 9 20;".repeat(4));
        check.dueRound("eight", x, 160, 0, 0, 1, 2, 3, 4, 5, 6, 7);
        check.dueRound("one", Check.port("o0;p0;d0 0 0 9 1;"), 1, 0, 0);
    }

    // "a row of unlike DEEDS that are not DONE"
    private static void roundLeavesOutWhatIsDone() {
        LentCourage x = Check.port("o0;p0;p0;d0 0 0 9 1;d1 0 0 9 2;");
        check.dueRound("each once", x, 3, 0, 0, 1);
        x.lends(0);
        x.does(0);
        check.dueRound("one is DONE", x, 2, 0, 1);
        x.undo();
        check.dueRound("none is", x, 3, 0, 0, 1);
    }

    // "the spoon is walked from where it is"
    private static void roundFromWhereTheSpoonIs() {
        LentCourage x = Check.port("o4;p4;p9;d1 9 0 99 1;");
        check.dueRound("from the OFFICE", x, 1, 5, 0);
        x.lends(0);
        check.dueRound("from who HOLDS it", x, 1, 5, 0);
        x.walks(0);
        check.dueRound("from where he is", x, 1, 4 + 9, 0);
        x.walks(9);
        check.dueRound("at that PLACE", x, 1, 13, 0);
    }

    // "to WHO is to do it (where he is by then"
    private static void roundToWhereHeIsByThen() {
        LentCourage x = Check.port("o5;p5;p9;d0 5 0 99 1;");
        x.lends(0);
        x.walks(9);
        x.lends(1);
        check.dueRound("not at HOME any more", x, 1, 4 + 4, 0);
        check.dueRound("at the PLACE of his DEED ahead, not at HOME",
            Check.port("o0;p0;p9;d0 9 0 9 1;d1 9 9 9 1;d0 8 10 10 1;"), 3, 10, 0, 1, 2);
    }

    // "not the one who did the one ahead"
    private static void roundNotByTheOneAhead() {
        check.dueRound("two of his", Check.port("o0;p0;d0 0 0 9 3;d0 0 0 9 2;"), 3, 0, 0);
        check.dueRound("another's between", Check.port("o0;p0;p0;d0 0 0 9 3;d0 0 0 9 2;d1 0 0 9 1;"),
            6, 0, 0, 2, 1);
        check.dueRound("another's too late for that",
            Check.port("o0;p0;p0;d0 0 0 0 3;d0 0 5 9 2;d1 1 0 0 1;"), 3, 0, 0);
    }

    // "for the first one WHO may HOLD it NOW, but FRESH"
    private static void roundFirstByWhoHoldsItFresh() {
        LentCourage x = Check.port("o0;p0;p0;d0 0 0 9 1;d0 0 0 9 2;d1 0 0 9 4;");
        x.lends(0);
        check.dueRound("FRESH", x, 7, 0, 0, 2, 1);
        x.does(0);
        check.dueRound("not FRESH, so another one first", x, 6, 0, 2, 1);
        x.keep(0);
        x.lends(1);
        check.dueRound("another one HOLDS it FRESH", x, 6, 0, 1, 2);
        x.does(2);
        check.dueRound("another one isn't FRESH", x, 2, 0, 1);
        x.back(0);
        x.brings();
        check.dueRound("the drawer HOLDS it", x, 6, 0, 1, 2);
        LentCourage alone = Check.port("o0;p0;d0 0 0 9 1;d0 0 0 9 2;");
        alone.lends(0);
        alone.does(0);
        check.dueRound("nobody else", alone, 0, 0);
    }

    // "waits till FROM, if need be"
    private static void roundWaitsTillFrom() {
        check.dueRound("an hour behind FROM", Check.port("o0;p0;d0 5 4 9 1;"), 1, 5, 0);
        check.dueRound("in the hour FROM", Check.port("o0;p0;d0 5 5 9 1;"), 1, 5, 0);
        check.dueRound("an hour ahead of FROM", Check.port("o0;p0;d0 5 6 9 1;"), 1, 6, 0);
        check.dueRound("he waits, so the next one is later",
            Check.port("o0;p0;p0;d0 0 6 6 1;d1 0 0 9 1;"), 2, 6, 0, 1);
    }

    // "and does it, by TILL"
    private static void roundByTill() {
        check.dueRound("in the hour TILL", Check.port("o0;p3;d0 1 0 5 1;"), 1, 5, 0);
        check.dueRound("an hour behind TILL", Check.port("o0;p3;d0 1 0 4 1;"), 0, 0);
        check.dueRound("the second in the hour TILL",
            Check.port("o0;p0;p0;d0 5 0 5 1;d1 5 0 15 1;"), 2, 15, 0, 1);
        check.dueRound("the second an hour behind TILL",
            Check.port("o0;p0;p0;d0 5 0 5 1;d1 5 0 14 2;"), 2, 5, 1);
    }

    // "hours 0 .. 99": later than these nothing is done
    private static void roundUpToHour99() {
        LentCourage x = Check.port("o0;p0;d0 0 99 99 1;");
        check.dueRound("waits till 99", x, 1, 99, 0);
        x.lends(0);
        Check.keepFor(x, 99);
        check.dueRound("at 99", x, 1, 99, 0);
        x.keeps(1);
        check.dueRound("at 100", x, 0, 100);
        Check.keepFor(x, 100);
        check.dueRound("at 200", x, 0, 200);
    }

    // "that of most WORTH"
    private static void roundOfMostWorth() {
        check.dueRound("one more, though later",
            Check.port("o0;p0;d0 0 0 0 4;d0 9 9 9 5;"), 5, 9, 1);
        check.dueRound("two rather than one",
            Check.port("o0;p0;p9;d0 0 5 5 5;d0 9 5 9 2;d1 9 9 9 4;"), 6, 9, 1, 2);
        check.dueRound("one rather than two",
            Check.port("o0;p0;p9;d0 0 5 5 7;d0 9 5 9 2;d1 9 9 9 4;"), 7, 5, 0);
    }

    // "of several that whose last DEED is done soonest"
    private static void roundDoneSoonest() {
        check.dueRound("an hour sooner", Check.port("o0;p0;d0 5 0 9 4;d0 4 0 9 4;"), 4, 4, 1);
        check.dueRound("the sooner order",
            Check.port("o0;p0;p0;d0 3 0 99 1;d1 0 0 99 1;"), 2, 3, 1, 0);
        check.dueRound("only the last one's hour counts",
            Check.port("o0;p0;p0;d0 0 0 9 1;d1 0 5 9 1;"), 2, 5, 0, 1);
    }

    // "then the first (by numbers, DEED by DEED)"
    private static void roundOfTheFirstNumbers() {
        check.dueRound("of one alone", Check.port("o5;p5;d0 4 0 9 4;d0 6 0 9 4;"), 4, 1, 0);
        check.dueRound("of two orders", Check.port("o0;p0;p0;d1 0 0 9 1;d0 0 0 9 1;"), 2, 0, 0, 1);
        check.dueRound("two ahead of one, by the first number",
            Check.port("o0;p0;p0;d0 0 5 5 1;d0 5 5 5 3;d1 0 5 5 2;"), 3, 5, 0, 2);
        check.dueRound("one ahead of two, by the first number",
            Check.port("o0;p0;p0;d0 5 5 5 3;d0 0 5 5 1;d1 0 5 5 2;"), 3, 5, 0);
        check.dueRound("by the second number",
            Check.port("o0;p0;p0;d0 0 0 9 1;d1 0 5 9 2;d1 0 5 9 2;"), 5, 5, 1, 0, 2);
    }

    // "the fewest spoons by which all are done", where there are none
    private static void spoonsOfNone() {
        check.due("new", new LentCourage().spoons(), 0);
        check.dueSpoons("p1;", 0);
    }

    // "from the OFFICE at hour 0 likewise"; "NONE (one can't be come to from the OFFICE)"
    private static void spoonsFromTheOffice() {
        check.dueSpoons("o0;p0;d0 0 0 0 1;", 1);
        check.dueSpoons("o0;p1;d0 0 2 9 1;", 1);
        check.dueSpoons("o0;p1;d0 0 1 9 1;", -9);
        check.dueSpoons("o0;p1;d0 0 0 99 1;", -9);
        check.dueSpoons("o30;p0;d0 30 60 60 1;", 1);
        check.dueSpoons("o30;p0;d0 30 59 99 1;", -9);
        check.dueSpoons("o0;p0;" + "d0 0 0 0 1;".repeat(7) + "d0 1 0 0 1;", -9);
        check.dueSpoons("o0;p0;d0 1 0 0 1;" + "d0 0 0 0 1;".repeat(7), -9);
    }

    // "of a later FROM"; "together are FROM of the other one at most"
    private static void spoonsToLaterDeeds() {
        check.dueSpoons("o0;p0;p7;d0 5 5 9 1;d1 4 10 10 1;", 1);
        check.dueSpoons("o0;p0;p7;d0 5 5 9 1;d1 4 9 99 1;", -9);
        check.dueSpoons("o0;p0;p4;d0 9 9 9 1;d1 5 15 15 1;", 1);
        check.dueSpoons("o0;p0;p4;d0 9 9 9 1;d1 5 14 99 1;", 2);
        check.dueSpoons("o0;p4;p0;d0 5 15 15 1;d1 9 9 9 1;", 1);
        check.dueSpoons("o0;p4;p0;d0 5 14 99 1;d1 9 9 9 1;", 2);
    }

    // "of one FROM of a greater number"
    private static void spoonsOfOneFrom() {
        check.dueSpoons("o0;p3;p0;d0 0 9 9 1;d1 0 9 9 1;", 1);
        check.dueSpoons("o0;p3;p0;d1 0 9 9 1;d0 0 9 9 1;", 2);
        check.dueSpoons("o0;p3;p0;d1 0 10 10 1;d0 0 9 9 1;", 1);
    }

    // "of an unlike WHO"
    private static void spoonsOfUnlikeWho() {
        check.dueSpoons("o0;p0;d0 0 5 9 1;d0 0 50 99 1;", 2);
        check.dueSpoons("o0;p0;p0;d0 0 5 9 1;d1 0 50 99 1;", 1);
        check.dueSpoons("o0;p0;p0;d0 0 5 9 1;d1 0 6 9 1;d0 0 7 9 1;", 1);
        check.dueSpoons("o0;p0;" + "d0 0 5 9 1;".repeat(8), 8);
        check.dueSpoons("o0;p0;p0;" + "d0 0 5 9 1;d1 0 5 9 1;".repeat(4), 1);
    }

    // "(those that are DONE, too)"; "all in the OFFICE at hour 0, everybody at HOME"
    private static void spoonsOfTheDoneToo() {
        LentCourage x = Check.port("o0;p0;p0;d0 0 0 9 1;d0 0 0 9 1;");
        x.lends(0);
        x.does(0);
        check.due("one is DONE", x.spoons(), 2);
        x.walks(30);
        x.keeps(20);
        check.due("all is later and elsewhere", x.spoons(), 2);
    }

    // "everybody at HOME till the DEED he does, and then again": not where he did the one ahead
    private static void spoonsFromHomeAgain() {
        check.dueSpoons("o0;p0;p0;d0 9 9 99 1;d1 9 27 99 1;d0 9 45 99 1;", 1);
        check.dueSpoons("o0;p0;p0;d0 9 9 99 1;d1 9 27 99 1;d0 9 44 99 1;", 2);
        check.dueSpoons("o0;p9;p0;d0 0 18 99 1;d1 0 18 99 1;d0 0 36 99 1;", 1);
        check.dueSpoons("o0;p9;p0;d0 0 18 99 1;d1 0 18 99 1;d0 0 35 99 1;", 2);
    }

    // "a SEED (0 .. 99999)"; "n (0 .. 20)"; drawn: "BAD"
    private static void numbersOfDrawn() {
        LentCourage x = Check.port("o0;p0;d0 0 0 9 7;");
        check.due("drawn(-1, 1)", x.drawn(-1, 1), -1);
        check.due("drawn(100000, 1)", x.drawn(100000, 1), -1);
        check.due("drawn(0, -1)", x.drawn(0, -1), -1);
        check.due("drawn(0, 21)", x.drawn(0, 21), -1);
        check.due("drawn(0, 0)", x.drawn(0, 0), 0);
        check.due("drawn(99999, 0)", x.drawn(99999, 0), 0);
        check.due("drawn(0, 1)", x.drawn(0, 1), 7);
        check.due("drawn(99999, 20)", x.drawn(99999, 20), 7);
        check.due("drawn(-1, 21)", x.drawn(-1, 21), -1);
    }

    // "(0 without DEEDS)"
    private static void drawnOfNone() {
        for (LentCourage x : new LentCourage[] {new LentCourage(), Check.port("p1;p2;")}) {
            check.due("no DEEDS, no LOT", x.drawn(5, 0), 0);
            check.due("no DEEDS, one LOT", x.drawn(5, 1), 0);
            check.due("no DEEDS, 20 LOTS", x.drawn(99999, 20), 0);
            check.due("no DEEDS, BAD SEED", x.drawn(100000, 1), -1);
            check.due("no DEEDS, BAD n", x.drawn(1, 21), -1);
        }
    }

    // "each time X becomes X times 75 and 74, modulo 65537; the LOT of n is X modulo n"
    private static void drawnByLots() {
        LentCourage x = Check.port(LAST_OF_SIX);
        check.due("74", x.drawn(0, 1), 74 % 8 + 1);
        check.due("65474, just below", x.drawn(872, 1), 65474 % 8 + 1);
        check.due("65549 less 65537", x.drawn(873, 1), 12 % 8 + 1);
        check.due("65536 stays", x.drawn(65536, 20), 1);
        check.due("65537 is as 0", x.drawn(65537, 1), 74 % 8 + 1);
        check.due("28781", x.drawn(99999, 1), 28781 % 8 + 1);
        check.due("45438 becomes 0", x.drawn(45438, 1), 1);
        LentCourage three = Check.port("o0;p0;p0;p0;d0 0 0 9 1;d1 0 0 9 2;d2 0 0 9 4;");
        check.due("65536 modulo 3", three.drawn(65536, 20), 2);
        check.due("a LOT of one", Check.port("o0;p0;d0 0 0 9 9;").drawn(12345, 1), 9);
    }

    private static int lot(int seed, int times) {
        long x = seed;
        for (int i = 0; i < times; i++) {
            x = (x * 75 + 74) % 65537;
        }
        return (int) (x % 8);
    }

    // "n times a LOT": the twentieth, too
    private static void drawnTwentyTimes() {
        LentCourage x = Check.port(LAST_OF_SIX);
        int seed = 0;
        for (int times = 1; times <= 20 && seed < 99999; times++) {
            if (times < 20 == (lot(seed, times) == 7)) {
                seed++;
                times = 0;
            }
        }
        int ahead = x.drawn(seed, 19);
        check.due("DEED 7 is drawn as the twentieth by " + seed, x.drawn(seed, 20), ahead + 8);
    }

    // "a LOT of all DEEDS .. if it is not DONE, is not of this row yet"
    private static void drawnOfAllDeeds() {
        LentCourage x = Check.port("o0;p0;p0;d0 0 0 9 7;d1 0 0 9 9;");
        check.due("74 modulo 2", x.drawn(0, 1), 7);
        check.due("149 modulo 2", x.drawn(1, 1), 9);
        check.due("each once", x.drawn(1, 20), 16);
        x.lends(0);
        x.does(0);
        check.due("DONE", x.drawn(0, 1), 0);
        check.due("still a LOT of two", x.drawn(1, 1), 9);
        check.due("one is DONE", x.drawn(1, 20), 9);
        check.due("nothing more is DONE", x.now(4), 1);
    }

    // "and can be the next one on a WAY"
    private static void drawnOnAWay() {
        check.due("by TILL", Check.port("o0;p3;d0 1 0 5 7;").drawn(1, 20), 7);
        check.due("behind TILL", Check.port("o0;p3;d0 1 0 4 7;").drawn(1, 20), 0);
        check.due("not the one who did the one ahead",
            Check.port("o0;p0;d0 0 0 9 7;d0 0 0 9 9;").drawn(1, 20), 9);
        LentCourage x = Check.port("o0;p0;p0;d0 0 0 9 7;d0 0 0 9 9;");
        x.lends(0);
        check.due("who HOLDS it FRESH", x.drawn(1, 1), 9);
        x.does(0);
        check.due("who HOLDS it, not FRESH", x.drawn(1, 20), 0);
        x.lends(1);
        check.due("another one HOLDS it", x.drawn(1, 20), 9);
    }

    /** WORTH of the row that is drawn when the first LOTS are these. */
    private static int drawnBy(LentCourage x, int... lots) {
        int deeds = x.count(1);
        for (int seed = 0; seed < 100000; seed++) {
            long drawn = seed;
            int like = 0;
            for (; like < lots.length; like++) {
                drawn = (drawn * 75 + 74) % 65537;
                if (drawn % deeds != lots[like]) {
                    break;
                }
            }
            if (like == lots.length) {
                return x.drawn(seed, lots.length);
            }
        }
        throw new IllegalArgumentException("no SEED draws these");
    }

    // "the next one on a WAY": from where the one ahead was done, in the hour when it was
    private static void drawnOneBehindAnother() {
        LentCourage waits = Check.port("o0;p0;p0;d0 0 6 6 1;d1 0 0 5 2;");
        check.due("behind one that is waited for", drawnBy(waits, 0, 1), 1);
        check.due("ahead of one that is waited for", drawnBy(waits, 1, 0), 3);
        LentCourage walks = Check.port("o0;p0;p9;d0 9 0 9 1;d1 9 9 9 2;d0 8 10 10 4;");
        check.due("to where he is by then", drawnBy(walks, 0, 1, 2), 7);
        check.due("he is still at HOME", drawnBy(walks, 1, 2, 0), 2);
        LentCourage goes = Check.port("o0;p0;p0;d0 5 0 5 1;d1 5 0 15 2;");
        check.due("the spoon goes back to another one", drawnBy(goes, 0, 1), 3);
        LentCourage late = Check.port("o0;p0;p0;d0 5 0 5 1;d1 5 0 14 2;");
        check.due("the spoon comes an hour too late", drawnBy(late, 0, 1), 1);
    }

    // "if it .. can be the next one on a WAY, it is": what was passed over may be drawn later
    private static void drawnAgainWhenItCanBe() {
        LentCourage x = Check.port("o0;p0;p0;d0 0 0 9 1;d0 0 0 9 2;d1 0 0 9 4;");
        check.due("passed over", drawnBy(x, 0, 1, 2), 5);
        check.due("drawn again", drawnBy(x, 0, 1, 2, 1), 7);
        check.due("of this row already", drawnBy(x, 0, 2, 0), 5);
    }

    private static void drawnFromNow() {
        LentCourage x = Check.port("o0;p0;p9;d0 0 0 20 1;d1 9 0 20 2;");
        x.lends(0);
        x.walks(9);
        check.due("from where he is", drawnBy(x, 0), 1);
        x.keeps(2);
        check.due("in the hour TILL", drawnBy(x, 0), 1);
        x.keeps(1);
        check.due("too late by then", drawnBy(x, 0, 1), 2);
        x.undo();
        check.due("UNDONE", drawnBy(x, 0), 1);
    }

    // "x (0 .. 10), k (0 .. 8)"; odds: "upper (what = 0), lower number (1)"; "BAD"
    private static void numbersOfOdds() {
        for (LentCourage x : new LentCourage[] {new LentCourage(), Check.port("o0;p0;d0 0 0 9 7;")}) {
            check.due("odds(-1, 0, 0)", x.odds(-1, 0, 0), -1);
            check.due("odds(11, 0, 0)", x.odds(11, 0, 0), -1);
            check.due("odds(0, -1, 0)", x.odds(0, -1, 0), -1);
            check.due("odds(0, 9, 0)", x.odds(0, 9, 0), -1);
            check.due("odds(0, 0, -1)", x.odds(0, 0, -1), -1);
            check.due("odds(0, 0, 2)", x.odds(0, 0, 2), -1);
            check.dueOdds(x, 0, 0, 1, 1);
            check.dueOdds(x, 10, 8, 1, 1);
        }
    }

    private static void oddsOfNone() {
        for (int tenths = 0; tenths <= 10; tenths++) {
            for (int k = 0; k <= 8; k++) {
                check.dueOdds(new LentCourage(), tenths, k, 1, 1);
            }
        }
    }

    // "each DEED .. fails by x of 10": x is 0 or 10; "that k at most fail": k as many as DEEDS, one less
    private static void oddsOfNoFailureAndOfAll() {
        LentCourage x = Check.port("o0;p0;d0 0 0 9 7;d0 0 0 9 7;d0 0 0 9 7;");
        check.dueOdds(x, 0, 0, 1, 1);
        check.dueOdds(x, 0, 8, 1, 1);
        check.dueOdds(x, 10, 0, 0, 1);
        check.dueOdds(x, 10, 2, 0, 1);
        check.dueOdds(x, 10, 3, 1, 1);
        check.dueOdds(x, 9, 2, 271, 1000);
        check.dueOdds(x, 9, 3, 1, 1);
        check.dueOdds(x, 9, 4, 1, 1);
        check.dueOdds(x, 1, 0, 729, 1000);
        check.dueOdds(x, 1, 1, 243, 250);
    }

    // "DEEDS (8 at most)": the largest numbers there are
    private static void oddsOfEight() {
        LentCourage x = Check.port("p0;" + "d0 0 0 0 1;".repeat(8));
        check.dueOdds(x, 1, 0, 43046721, 100000000);
        check.dueOdds(x, 9, 0, 1, 100000000);
        check.dueOdds(x, 1, 7, 99999999, 100000000);
        check.dueOdds(x, 9, 7, 56953279, 100000000);
        check.dueOdds(x, 3, 3, 16117913, 20000000);
        check.dueOdds(x, 10, 7, 0, 1);
        check.dueOdds(x, 10, 8, 1, 1);
        check.dueOdds(x, 9, 8, 1, 1);
    }

    // odds: "in least terms"
    private static void oddsInLeastTerms() {
        LentCourage one = Check.port("p0;d0 0 0 0 1;");
        check.dueOdds(one, 1, 0, 9, 10);
        check.dueOdds(one, 2, 0, 4, 5);
        check.dueOdds(one, 5, 0, 1, 2);
        check.dueOdds(one, 8, 0, 1, 5);
        LentCourage many = Check.port("p0;" + "d0 0 0 0 1;".repeat(8));
        check.dueOdds(many, 5, 0, 1, 256);
        check.dueOdds(many, 5, 7, 255, 256);
        check.dueOdds(many, 8, 0, 1, 390625);
        check.dueOdds(many, 2, 0, 65536, 390625);
    }

    // "each DEED that is not DONE"
    private static void oddsOfWhatIsNotDone() {
        LentCourage x = Check.port("o0;p0;p0;d0 0 0 9 7;d1 0 0 9 7;");
        check.dueOdds(x, 5, 0, 1, 4);
        x.lends(0);
        x.does(0);
        check.dueOdds(x, 5, 0, 1, 2);
        x.lends(1);
        x.does(1);
        check.dueOdds(x, 10, 0, 1, 1);
    }
}
