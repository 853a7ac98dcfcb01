/** Part 3 of the document and promises 18 to 21: a test for each sentence that names an edge. */
public final class HeardEdgesTest {
    private static final Check check = new Check("HeardEdgesTest");
    // DEEDS 0, 1, 2 are done by 0, 1, 2, each two PLACES above his HOME.
    private static final String PORT = "o0;p0;p10;p20;d0 2 50 60 1;d1 12 50 60 1;d2 22 50 60 1;";

    public static void main(String[] args) {
        numbersOfHears();
        nothingToHearOf();
        heardSixAtMost();
        heardInAnyHour();
        forgetsNothingAndAll();
        liesOfNoneAndOfOne();
        liesFartherThanHours();
        liesInOneHour();
        liesByHours();
        liesOfAllButTheFirst();
        numbersOfHad();
        hadByAnybody();
        hadByWhoDoesThem();
        hadWhenComeTo();
        hadWhenLeftInTime();
        hadBetweenTwo();
        hadOfOneHour();
        hadByBitsOfSix();
        hadByHomeAlone();
        heardWhateverIsDone();
        check.finish();
    }

    private static LentCourage heard(int... deedsAndHours) {
        LentCourage x = Check.port(PORT);
        for (int i = 0; i < deedsAndHours.length; i += 2) {
            x.hears(deedsAndHours[i], deedsAndHours[i + 1]);
        }
        return x;
    }

    // "a DEED was done in an hour (0 .. 99)"; hears: "BAD"
    private static void numbersOfHears() {
        LentCourage x = heard();
        check.due("hears(-1, 5)", x.hears(-1, 5), -1);
        check.due("hears(3, 5)", x.hears(3, 5), -1);
        check.due("hears(0, -1)", x.hears(0, -1), -1);
        check.due("hears(0, 100)", x.hears(0, 100), -1);
        check.due("nothing HEARD", x.count(4), 0);
        check.due("hears(0, 0)", x.hears(0, 0), 1);
        check.due("hears(2, 99)", x.hears(2, 99), 2);
        LentCourage eight = Check.port("p0;" + "d0 0 0 9 1;".repeat(8));
        check.due("hears(8, 0)", eight.hears(8, 0), -1);
        check.due("hears(7, 0)", eight.hears(7, 0), 1);
    }

    private static void nothingToHearOf() {
        LentCourage nobody = new LentCourage();
        LentCourage alone = Check.port("p1;");
        for (LentCourage x : new LentCourage[] {nobody, alone}) {
            check.due("no DEEDS: hears(0, 0)", x.hears(0, 0), -1);
            check.due("no DEEDS: lies()", x.lies(), 0);
            check.due("no DEEDS: forget()", x.forget(), 0);
        }
        check.due("no PEOPLE: had(0)", nobody.had(0), 0);
        check.due("no DEEDS: had(0)", alone.had(0), 1);
    }

    // "HEARD (6 at most)"; hears: "BAD; FULL"
    private static void heardSixAtMost() {
        LentCourage x = heard(0, 1, 0, 1, 0, 1, 0, 1, 0, 1);
        check.due("a sixth", x.hears(0, 1), 6);
        check.due("a seventh", x.hears(0, 1), -3);
        check.due("a seventh ahead of all", x.hears(1, 0), -3);
        check.due("a seventh behind all", x.hears(1, 99), -3);
        check.due("BAD is ahead of FULL: DEED -1", x.hears(-1, 1), -1);
        check.due("BAD is ahead of FULL: DEED 3", x.hears(3, 1), -1);
        check.due("BAD is ahead of FULL: hour -1", x.hears(0, -1), -1);
        check.due("BAD is ahead of FULL: hour 100", x.hears(0, 100), -1);
        check.due("still six", x.count(4), 6);
        check.due("nothing refused is of the row", x.lies(), 0);
        check.due("forget()", x.forget(), 6);
        check.due("room again", x.hears(0, 1), 1);
    }

    // "a DEED was done": whether it is DONE, and from FROM to TILL or not, is all one
    private static void heardInAnyHour() {
        LentCourage x = Check.port("o5;p5;d0 5 0 9 1;");
        check.due("ahead of all that is done", x.hears(0, 99), 1);
        x.lends(0);
        x.does(0);
        check.due("DONE", x.hears(0, 0), 2);
        check.due("the same again", x.hears(0, 0), 3);
        check.due("DONE as it was", x.now(4), 1);
        x.undo();
        check.due("HEARD is not UNDONE", x.count(4), 3);
    }

    // forget: "Nothing was HEARD: how much was"
    private static void forgetsNothingAndAll() {
        LentCourage x = heard(0, 1, 2, 1);
        check.due("lies ahead of it", x.lies(), 1);
        check.due("forget() of two", x.forget(), 2);
        check.due("forget() of none", x.forget(), 0);
        check.due("lies()", x.lies(), 0);
        check.due("had(1)", x.had(1), 7);
        check.due("count(4)", x.count(4), 0);
    }

    // "how many of them, but the first"
    private static void liesOfNoneAndOfOne() {
        check.due("of none", heard().lies(), 0);
        check.due("of one", heard(2, 0).lies(), 0);
    }

    // "too soon behind the one ahead of them (they are farther apart than there are hours)"
    private static void liesFartherThanHours() {
        check.due("20 apart, 20 hours", heard(0, 10, 2, 30).lies(), 0);
        check.due("20 apart, 19 hours", heard(0, 10, 2, 29).lies(), 1);
        check.due("20 apart the other way, 20 hours", heard(2, 10, 0, 30).lies(), 0);
        check.due("20 apart the other way, 19 hours", heard(2, 10, 0, 29).lies(), 1);
        check.due("from 0 to 99", heard(0, 0, 2, 99).lies(), 0);
    }

    private static void liesInOneHour() {
        check.due("the same DEED in one hour", heard(1, 10, 1, 10).lies(), 0);
        check.due("another one in one hour", heard(1, 10, 0, 10).lies(), 1);
        LentCourage x = Check.port("o0;p0;p9;d0 4 0 9 1;d1 4 0 9 1;");
        x.hears(0, 7);
        x.hears(1, 7);
        check.due("another one at the same PLACE in one hour", x.lies(), 0);
    }

    // "These are put in a row by hours (of one hour as they were HEARD)"
    private static void liesByHours() {
        check.due("HEARD the other way round", heard(2, 30, 0, 10).lies(), 0);
        check.due("HEARD between", heard(0, 10, 2, 30, 1, 20).lies(), 0);
        check.due("in one hour, as HEARD", heard(0, 10, 1, 20, 1, 20, 2, 30).lies(), 0);
        check.due("in one hour, the last is nearer", heard(0, 20, 1, 20, 2, 30).lies(), 1);
        check.due("in one hour, the last is farther", heard(1, 20, 0, 20, 2, 30).lies(), 2);
        check.due("in one hour, HEARD later", heard(2, 30, 1, 20, 0, 20).lies(), 2);
    }

    private static void liesOfAllButTheFirst() {
        check.due("five of six", heard(0, 9, 1, 9, 2, 9, 1, 9, 0, 9, 2, 9).lies(), 5);
        check.due("none of six", heard(0, 0, 1, 10, 2, 20, 1, 30, 0, 40, 2, 60).lies(), 0);
    }

    // "HAD at an hour (0 .. 99)"; had: "BAD"
    private static void numbersOfHad() {
        for (LentCourage x : new LentCourage[] {heard(), heard(0, 0, 2, 99)}) {
            check.due("had(-1)", x.had(-1), -1);
            check.due("had(100)", x.had(100), -1);
        }
        check.due("had(0)", heard(0, 0, 2, 99).had(0), 1);
        check.due("had(99)", heard(0, 0, 2, 99).had(99), 4);
    }

    // "(if there is one)"
    private static void hadByAnybody() {
        check.due("nobody", new LentCourage().had(0), 0);
        check.due("nothing HEARD, hour 0", heard().had(0), 7);
        check.due("nothing HEARD, hour 99", heard().had(99), 7);
    }

    // "who does the latest HEARD in that hour or ahead of it, who does the earliest in that hour or behind it"
    private static void hadByWhoDoesThem() {
        LentCourage x = heard(2, 40, 0, 42);
        check.due("an hour ahead of both", x.had(39), 4);
        check.due("in the hour of the first", x.had(40), 4);
        check.due("between", x.had(41), 5);
        check.due("in the hour of the second", x.had(42), 1);
        check.due("an hour behind both", x.had(43), 1);
        check.due("the latest, not the one ahead of it", heard(1, 30, 0, 31, 2, 99).had(32), 1 + 4);
        check.due("the earliest, not the one behind it", heard(0, 0, 2, 98, 1, 99).had(97), 1 + 4);
    }

    // "each whose HOME can be come to from the one .. in time"
    private static void hadWhenComeTo() {
        LentCourage x = heard(2, 30);
        check.due("12 apart, 11 hours", x.had(41), 4);
        check.due("12 apart, 12 hours", x.had(42), 6);
        check.due("22 apart, 21 hours", x.had(51), 6);
        check.due("22 apart, 22 hours", x.had(52), 7);
        check.due("who does it, away from HOME", x.had(30), 4);
        check.due("22 apart from hour 77", heard(2, 77).had(99), 7);
        check.due("22 apart from hour 78", heard(2, 78).had(99), 6);
    }

    // "from where one can be at the other .. in time"
    private static void hadWhenLeftInTime() {
        LentCourage x = heard(2, 30);
        check.due("12 apart, 11 hours", x.had(19), 4);
        check.due("12 apart, 12 hours", x.had(18), 6);
        check.due("22 apart, 21 hours", x.had(9), 6);
        check.due("22 apart, 22 hours", x.had(8), 7);
        check.due("22 apart till hour 22", heard(2, 22).had(0), 7);
        check.due("22 apart till hour 21", heard(2, 21).had(0), 6);
    }

    // "and": both of them
    private static void hadBetweenTwo() {
        // HOME of 1 is 8 from DEED 0's PLACE and 12 from DEED 2's.
        LentCourage x = heard(0, 10, 2, 30);
        check.due("come to, left in time", x.had(18), 7);
        check.due("not come to yet", x.had(17), 5);
        check.due("too late to be left", x.had(19), 5);
        check.due("an hour less between", heard(0, 10, 2, 29).had(18), 5);
        check.due("an hour less between, sooner", heard(0, 10, 2, 29).had(17), 5);
    }

    // "(of one hour as they were HEARD)"
    private static void hadOfOneHour() {
        LentCourage x = heard(1, 20, 2, 20, 0, 20);
        check.due("in that hour: the last and the first", x.had(20), 1 + 2);
        check.due("behind: the last", x.had(21), 1);
        check.due("ahead: the first", x.had(19), 2);
        check.due("in that hour: one is both", heard(1, 20).had(20), 2);
        LentCourage home = Check.port("o0;p4;p4;p5;d0 4 0 9 1;");
        home.hears(0, 7);
        check.due("in that hour: whose HOME is there", home.had(7), 3);
        check.due("an hour later", home.had(8), 7);
    }

    // "PEOPLE (bits)"
    private static void hadByBitsOfSix() {
        LentCourage x = Check.port("p9;p9;p9;p9;p9;p9;d5 9 0 9 1;");
        check.due("all six", x.had(0), 63);
        x.hears(0, 50);
        check.due("all six at HOME there", x.had(50), 63);
        LentCourage far = Check.port("p0;p0;p0;p0;p0;p30;d5 30 0 9 1;");
        far.hears(0, 50);
        check.due("the sixth alone", far.had(50), 32);
    }

    // "each whose HOME can be come to": not where he is, nor in which HOUR that is asked
    private static void hadByHomeAlone() {
        LentCourage x = heard(2, 30);
        x.lends(0);
        x.walks(22);
        check.due("he is there now, his HOME is not", x.had(30), 4);
        check.due("22 apart from HOME, 21 hours", x.had(51), 6);
        check.due("22 apart from HOME, 22 hours", x.had(52), 7);
        x.walks(30);
        x.keeps(20);
        check.due("farther off, his HOME is not", x.had(52), 7);
        check.due("ahead of it, by HOME too", x.had(8), 7);
    }

    // "WHO fears it" does it: who HELD the spoon in truth, and what is UNDONE, is all one
    private static void heardWhateverIsDone() {
        LentCourage x = Check.port("o5;p5;p5;d0 5 0 9 1;d1 9 0 99 1;");
        x.hears(1, 4);
        x.hears(0, 0);
        x.keep(0);
        x.lends(0);
        x.does(0);
        x.keeps(1);
        check.due("in the hour of the first", x.had(0), 3);
        check.due("between them", x.had(2), 1 + 2);
        check.due("no LIES", x.lies(), 0);
        x.undo();
        x.undo();
        x.back(0);
        check.due("none forgotten", x.count(4), 2);
        check.due("between them still", x.had(2), 1 + 2);
    }
}
