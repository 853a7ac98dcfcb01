/** Part 2 of the document, CARE, and promises 5 to 13: a test for each sentence that names an edge. */
public final class StepsEdgesTest {
    private static final Check check = new Check("StepsEdgesTest");

    public static void main(String[] args) {
        atFirst();
        nobodyThere();
        numbersOfOne();
        numbersOfDeed();
        numbersOfNow();
        lendsToOneOfThePeople();
        lendsAtTheSamePlace();
        lendsToAnotherOne();
        lendsFresh();
        bringsAtTheOffice();
        bringsWhatSomebodyHolds();
        owesBeyondFree();
        owesInAll();
        owesSinceHeHoldsIt();
        owesTheMostThereCanBe();
        walksToPlaces();
        walksToAnotherPlace();
        walksUpTo200();
        keepsOneTo20();
        keepsUpTo200();
        givesAtHour200();
        doesOneOfTheDeeds();
        doesWhatHeFears();
        doesFresh();
        doesAtItsPlace();
        doesFromFrom();
        doesTillTill();
        doesOnce();
        doesInHour99();
        undoesNothing();
        undoesTenAtMost();
        undoesWhatWasDoneAlone();
        careOfEach();
        check.finish();
    }

    private static LentCourage at(String text, int... lentTo) {
        LentCourage x = Check.port(text);
        for (int p : lentTo) {
            x.lends(p);
        }
        return x;
    }

    // "At first the HOUR is 0, the spoon in the drawer at the OFFICE, all are at HOME, nothing is DONE or OWED"
    private static void atFirst() {
        LentCourage x = Check.port("o7;p7;p30;d0 7 0 9 5;");
        int[] now = {0, -9, 0, 0, 0, 0, 0};
        for (int what = 0; what < 7; what++) {
            check.due("at first now(" + what + ")", x.now(what), now[what]);
            check.due("new now(" + what + ")", new LentCourage().now(what), now[what]);
        }
        check.due("at HOME", x.one(1, 1), 30);
        check.due("OWES nothing", x.one(1, 2), 0);
        check.due("CARE", x.one(1, 3), 0);
        check.due("not DONE", x.deed(0, 5), 0);
        check.due("nothing to be UNDONE", x.undo(), -2);
        check.due("at the OFFICE", x.lends(0), 0);
    }

    // promise 1: "nobody"
    private static void nobodyThere() {
        LentCourage x = new LentCourage();
        check.due("lends(0)", x.lends(0), -1);
        check.due("brings()", x.brings(), -2);
        check.due("walks(0)", x.walks(0), -2);
        check.due("keeps(1)", x.keeps(1), -2);
        check.due("does(0)", x.does(0), -1);
        check.due("undo()", x.undo(), -2);
        check.due("one(0, 0)", x.one(0, 0), -1);
        check.due("deed(0, 0)", x.deed(0, 0), -1);
        LentCourage people = Check.port("p15;");
        check.due("does(0) without DEEDS", people.does(0), -1);
        check.due("deed(0, 0) without DEEDS", people.deed(0, 0), -1);
    }

    // one: "Of one: 0 HOME .. 3 CARE. BAD"
    private static void numbersOfOne() {
        LentCourage x = Check.port("p1;p2;p3;p4;p5;p6;");
        check.due("one(-1, 0)", x.one(-1, 0), -1);
        check.due("one(0, 0)", x.one(0, 0), 1);
        check.due("one(5, 0)", x.one(5, 0), 6);
        check.due("one(6, 0)", x.one(6, 0), -1);
        check.due("one(0, -1)", x.one(0, -1), -1);
        check.due("one(0, 3)", x.one(0, 3), 0);
        check.due("one(0, 4)", x.one(0, 4), -1);
        check.due("one(6, 4)", x.one(6, 4), -1);
        check.due("the second of one", Check.port("p1;").one(1, 0), -1);
    }

    // deed: "Of a DEED: 0 WHO .. 5 whether it is DONE (1, 0). BAD"
    private static void numbersOfDeed() {
        LentCourage x = Check.port("p1;" + "d0 1 2 3 4;".repeat(7) + "d0 30 9 9 9;");
        check.due("deed(-1, 1)", x.deed(-1, 1), -1);
        check.due("deed(0, 1)", x.deed(0, 1), 1);
        check.due("deed(7, 1)", x.deed(7, 1), 30);
        check.due("deed(8, 1)", x.deed(8, 1), -1);
        check.due("deed(0, -1)", x.deed(0, -1), -1);
        check.due("deed(0, 0)", x.deed(0, 0), 0);
        check.due("deed(0, 5)", x.deed(0, 5), 0);
        check.due("deed(0, 6)", x.deed(0, 6), -1);
        check.due("deed(8, 6)", x.deed(8, 6), -1);
        check.due("the second of one", Check.port("p1;d0 1 2 3 4;").deed(1, 0), -1);
    }

    // now: "0 the HOUR .. 6 what all OWE. BAD"; "NONE: the drawer"; "0: the drawer"
    private static void numbersOfNow() {
        LentCourage x = at("o5;p5;", 0);
        check.due("now(-1)", x.now(-1), -1);
        check.due("now(7)", x.now(7), -1);
        check.due("who HOLDS it: 0", x.now(1), 0);
        check.due("FRESH", x.now(2), 1);
        Check.keepFor(x, 9);
        check.due("how long", x.now(3), 9);
        x.brings();
        check.due("the drawer", x.now(1), -9);
        check.due("the drawer is not FRESH", x.now(2), 0);
        check.due("the drawer HOLDS it for no time", x.now(3), 0);
        check.due("what all OWE", x.now(6), 6);
    }

    // lends: "BAD"
    private static void lendsToOneOfThePeople() {
        LentCourage x = Check.port("o5;p5;p5;p5;p5;p5;p5;");
        check.due("lends(-1)", x.lends(-1), -1);
        check.due("lends(6)", x.lends(6), -1);
        check.due("lends(5)", x.lends(5), 0);
        check.due("lends(0)", x.lends(0), 0);
        check.due("BAD is ahead of STATE", Check.port("o5;p6;").lends(1), -1);
    }

    // "to another one who is at the same PLACE (the drawer's: OFFICE)"; lends: "STATE: .. is not at that PLACE"
    private static void lendsAtTheSamePlace() {
        LentCourage x = Check.port("o5;p4;p5;p6;p7;");
        check.due("from the drawer, a PLACE below", x.lends(0), -2);
        check.due("from the drawer, a PLACE above", x.lends(2), -2);
        check.due("from the drawer, at the OFFICE", x.lends(1), 0);
        check.due("from one, a PLACE below", x.lends(0), -2);
        check.due("from one, a PLACE above", x.lends(2), -2);
        x.walks(6);
        check.due("away from the OFFICE, the same PLACE", x.lends(2), 0);
        check.due("and back to him", x.lends(1), 0);
        x.walks(7);
        check.due("where he was once", x.lends(2), -2);
        check.due("where he came to", x.lends(3), 0);
        x.walks(5);
        x.brings();
        check.due("from the drawer, HOME isn't where he is", x.lends(1), -2);
        check.due("from the drawer, he who brought it", x.lends(3), 0);
        LentCourage ends = Check.port("o30;p30;p0;");
        check.due("OFFICE 30", ends.lends(0), 0);
        ends.walks(0);
        check.due("PLACE 0", ends.lends(1), 2 * 15 - 3);
    }

    // lends: "STATE: he HOLDS it"
    private static void lendsToAnotherOne() {
        LentCourage x = at("o5;p5;p5;", 0);
        check.due("he HOLDS it", x.lends(0), -2);
        check.due("another one", x.lends(1), 0);
        check.due("he doesn't any more", x.lends(0), 0);
        x.brings();
        check.due("the drawer does", x.lends(0), 0);
    }

    // "that one HOLDS it, FRESH"; "he is not FRESH any more (till it is LENT to him again)"
    private static void lendsFresh() {
        LentCourage x = at("o5;p5;p5;d0 5 0 9 1;d0 5 0 9 1;d0 5 0 9 1;", 0);
        check.due("FRESH by the drawer", x.now(2), 1);
        x.does(0);
        check.due("not FRESH by a DEED", x.now(2), 0);
        x.keeps(1);
        x.walks(6);
        x.walks(5);
        check.due("nor by hours and walks", x.now(2), 0);
        x.lends(0);
        check.due("nor by a lend that is refused", x.now(2), 0);
        x.lends(1);
        check.due("the other one is", x.now(2), 1);
        x.lends(0);
        check.due("LENT to him again", x.now(2), 1);
        check.due("another DEED", x.does(1), 2);
        x.brings();
        x.lends(0);
        check.due("LENT to him again by the drawer", x.does(2), 3);
    }

    // "puts it into the drawer, at the OFFICE"; brings: "STATE: .. he is not at the OFFICE"
    private static void bringsAtTheOffice() {
        LentCourage x = at("o5;p5;p4;", 0);
        x.walks(4);
        check.due("a PLACE below", x.brings(), -2);
        x.lends(1);
        check.due("at HOME", x.brings(), -2);
        x.walks(6);
        check.due("a PLACE above", x.brings(), -2);
        x.walks(5);
        check.due("at the OFFICE", x.brings(), 0);
        check.due("in the drawer", x.now(1), -9);
    }

    // brings: "STATE: nobody HOLDS it"
    private static void bringsWhatSomebodyHolds() {
        LentCourage x = Check.port("o5;p5;");
        check.due("at first", x.brings(), -2);
        x.lends(0);
        check.due("he HOLDS it", x.brings(), 0);
        check.due("brought already", x.brings(), -2);
    }

    // "OWES an hour more for each that he HELD it beyond FREE"
    private static void owesBeyondFree() {
        for (int free : new int[] {0, 1, 3, 8, 9}) {
            for (int held = 0; held <= 11; held++) {
                String when = "FREE " + free + ", HELD " + held;
                int due = Math.max(0, held - free);
                LentCourage x = at("o5;f" + free + ";p5;p5;", 0);
                Check.keepFor(x, held);
                check.due(when + ": OWES nothing yet", x.one(0, 2), 0);
                check.due(when + ": brings()", x.brings(), due);
                check.due(when + ": one(0, 2)", x.one(0, 2), due);
                LentCourage y = at("o5;f" + free + ";p5;p5;", 0);
                Check.keepFor(y, held);
                check.due(when + ": lends(1)", y.lends(1), due);
                check.due(when + ": now(6)", y.now(6), due);
            }
        }
    }

    // "an hour more"; lends: "what he who gave it OWES (0: the drawer)"
    private static void owesInAll() {
        LentCourage x = at("o5;f1;p5;p5;", 0);
        Check.keepFor(x, 3);
        check.due("the first time", x.lends(1), 2);
        Check.keepFor(x, 2);
        check.due("another one", x.lends(0), 1);
        Check.keepFor(x, 1);
        check.due("no more", x.lends(1), 2);
        check.due("no more, either", x.brings(), 1);
        check.due("the drawer, though he OWES", x.lends(0), 0);
        Check.keepFor(x, 2);
        check.due("an hour more", x.brings(), 3);
        check.due("all", x.now(6), 4);
    }

    // "that he HELD it": walks and waits alike, and only since he was LENT it
    private static void owesSinceHeHoldsIt() {
        LentCourage x = at("o5;f0;p5;p9;", 0);
        x.walks(9);
        check.due("four hours of a walk", x.lends(1), 4);
        Check.keepFor(x, 6);
        check.due("six hours of waiting", x.lends(0), 6);
        check.due("how long", x.now(3), 0);
        x.walks(5);
        check.due("the walk back alone", x.brings(), 8);
    }

    // "(999 at most)": with 200 hours nobody comes so far; this is the most there can be
    private static void owesTheMostThereCanBe() {
        LentCourage x = at("o5;f0;p5;", 0);
        Check.keepFor(x, 200);
        check.due("200 hours, none FREE", x.brings(), 200);
        check.due("what all OWE", x.now(6), 200);
        LentCourage y = at("o5;f9;p5;p5;", 0);
        Check.keepFor(y, 200);
        check.due("200 hours, 9 FREE", y.lends(1), 191);
    }

    // "PLACES 0 .. 30"; walks: "BAD"
    private static void walksToPlaces() {
        LentCourage x = at("o5;p5;", 0);
        check.due("walks(-1)", x.walks(-1), -1);
        check.due("walks(31)", x.walks(31), -1);
        check.due("walks(0)", x.walks(0), 5);
        check.due("walks(30)", x.walks(30), 35);
        check.due("where he is", x.one(0, 1), 30);
        LentCourage nobody = Check.port("o5;p5;");
        check.due("BAD is ahead of STATE: -1", nobody.walks(-1), -1);
        check.due("BAD is ahead of STATE: 31", nobody.walks(31), -1);
        check.due("nobody HOLDS it", nobody.walks(6), -2);
        x.walks(5);
        x.brings();
        check.due("nobody HOLDS it any more", x.walks(6), -2);
    }

    // "goes to another PLACE: the HOUR is as much later as these are apart"; walks: "STATE: .. he is there"
    private static void walksToAnotherPlace() {
        LentCourage x = at("o5;p5;p6;", 0);
        check.due("he is there", x.walks(5), -2);
        check.due("the next PLACE", x.walks(6), 1);
        check.due("he is there now", x.walks(6), -2);
        check.due("the next PLACE back", x.walks(5), 2);
        check.due("HOME stays", x.one(0, 0), 5);
        x.walks(9);
        check.due("only he went", x.one(1, 1), 6);
    }

    // "(up to 200, else he can't)"; walks: "it would be later than 200"
    private static void walksUpTo200() {
        LentCourage x = at("o0;p0;p1;", 0);
        Check.keepFor(x, 170);
        x.keep(0);
        check.due("to 200", x.walks(30), 200);
        check.due("to 201", x.walks(29), -2);
        x.back(0);
        x.keeps(1);
        check.due("to 201 from afar", x.walks(30), -2);
        check.due("he stays", x.one(0, 1), 0);
        check.due("the HOUR stays", x.now(0), 171);
        check.due("a PLACE nearer", x.walks(29), 200);
        check.due("BAD is ahead of STATE", x.walks(31), -1);
    }

    // "KEPT: n (1 .. 20) hours go by"; keeps: "BAD; STATE: nobody HOLDS it"
    private static void keepsOneTo20() {
        LentCourage x = at("o5;p5;", 0);
        check.due("keeps(0)", x.keeps(0), -1);
        check.due("keeps(-1)", x.keeps(-1), -1);
        check.due("keeps(21)", x.keeps(21), -1);
        check.due("keeps(1)", x.keeps(1), 1);
        check.due("keeps(20)", x.keeps(20), 21);
        x.brings();
        check.due("nobody HOLDS it", x.keeps(1), -2);
        check.due("BAD is ahead of STATE: 0", x.keeps(0), -1);
        check.due("BAD is ahead of STATE: 21", x.keeps(21), -1);
    }

    // "KEPT: .. (likewise)"; keeps: "it would be later than 200"
    private static void keepsUpTo200() {
        LentCourage x = at("o5;p5;", 0);
        Check.keepFor(x, 181);
        check.due("to 201", x.keeps(20), -2);
        check.due("the HOUR stays", x.now(0), 181);
        check.due("to 200", x.keeps(19), 200);
        check.due("no more", x.keeps(1), -2);
        check.due("BAD is ahead of STATE: 0", x.keeps(0), -1);
        check.due("BAD is ahead of STATE: 21", x.keeps(21), -1);
        LentCourage y = at("o5;p5;", 0);
        Check.keepFor(y, 180);
        check.due("20 hours to 200", y.keeps(20), 200);
    }

    // What takes no time goes on at hour 200.
    private static void givesAtHour200() {
        LentCourage x = at("o5;f0;p5;p5;", 0);
        Check.keepFor(x, 200);
        check.due("LENT", x.lends(1), 200);
        check.due("BACK", x.brings(), 0);
        check.due("LENT by the drawer", x.lends(0), 0);
        check.due("UNDONE", x.undo(), 9);
        check.due("CARE of one who HELD it just now", x.one(0, 3), 0);
    }

    // does: "BAD"
    private static void doesOneOfTheDeeds() {
        LentCourage x = at("o5;p5;p5;" + "d0 5 0 9 1;".repeat(7) + "d0 5 0 9 6;", 0);
        check.due("does(-1)", x.does(-1), -1);
        check.due("does(8)", x.does(8), -1);
        check.due("does(7)", x.does(7), 6);
        check.due("BAD is ahead of STATE: -1", x.does(-1), -1);
        check.due("BAD is ahead of STATE: 8", x.does(8), -1);
        x.lends(1);
        x.lends(0);
        check.due("does(0)", x.does(0), 7);
        check.due("bits", x.now(4), 129);
    }

    // "does a DEED that he fears"; does: "he who HOLDS it (nobody, too) does not fear it"
    private static void doesWhatHeFears() {
        LentCourage x = Check.port("o5;p5;p5;d0 5 0 9 1;d1 5 0 9 2;");
        check.due("nobody", x.does(0), -2);
        x.lends(0);
        check.due("another's", x.does(1), -2);
        check.due("his own", x.does(0), 1);
        x.lends(1);
        check.due("another's, done", x.does(0), -2);
        check.due("the other's own", x.does(1), 3);
        LentCourage brought = at("o5;p5;d0 5 0 9 1;", 0);
        brought.brings();
        check.due("nobody any more", brought.does(0), -2);
    }

    // "who HOLDS it FRESH"; does: "is not FRESH"
    private static void doesFresh() {
        LentCourage x = at("o5;p5;p5;d0 5 0 9 1;d0 5 0 9 2;", 0);
        check.due("FRESH", x.does(0), 1);
        check.due("not FRESH", x.does(1), -2);
        x.lends(1);
        x.lends(0);
        check.due("FRESH again", x.does(1), 3);
    }

    // "at its PLACE"; does: "is not there"
    private static void doesAtItsPlace() {
        LentCourage x = at("o5;p5;d0 6 0 9 1;", 0);
        check.due("a PLACE below", x.does(0), -2);
        x.walks(7);
        check.due("a PLACE above", x.does(0), -2);
        x.walks(6);
        check.due("there", x.does(0), 1);
    }

    // "from FROM"; does: "not the hour for it"
    private static void doesFromFrom() {
        LentCourage x = at("o5;p5;d0 5 4 9 1;", 0);
        Check.keepFor(x, 3);
        check.due("an hour ahead of FROM", x.does(0), -2);
        Check.keepFor(x, 1);
        check.due("in the hour FROM", x.does(0), 1);
        LentCourage y = at("o5;p5;d0 5 0 0 1;", 0);
        check.due("FROM and TILL are 0", y.does(0), 1);
    }

    // "to TILL"; does: "not the hour for it"
    private static void doesTillTill() {
        LentCourage x = at("o5;p5;d0 5 4 9 1;", 0);
        Check.keepFor(x, 9);
        check.due("in the hour TILL", x.does(0), 1);
        x.undo();
        Check.keepFor(x, 1);
        check.due("an hour behind TILL", x.does(0), -2);
        LentCourage y = at("o5;p5;d0 5 4 4 1;", 0);
        Check.keepFor(y, 3);
        check.due("ahead of the only hour", y.does(0), -2);
        Check.keepFor(y, 1);
        check.due("in the only hour", y.does(0), 1);
    }

    // "and that is not DONE"; does: "it is DONE"
    private static void doesOnce() {
        LentCourage x = at("o5;p5;p5;d0 5 0 9 1;", 0);
        check.due("not DONE", x.does(0), 1);
        x.lends(1);
        x.lends(0);
        check.due("DONE", x.does(0), -2);
        check.due("still FRESH", x.now(2), 1);
        check.due("whether it is DONE", x.deed(0, 5), 1);
    }

    // "hours 0 .. 99"
    private static void doesInHour99() {
        LentCourage x = at("o5;p5;d0 5 99 99 20;", 0);
        Check.keepFor(x, 98);
        check.due("in hour 98", x.does(0), -2);
        Check.keepFor(x, 1);
        check.due("in hour 99", x.does(0), 20);
        x.undo();
        Check.keepFor(x, 1);
        check.due("in hour 100", x.does(0), -2);
    }

    // undo: "STATE: none"
    private static void undoesNothing() {
        LentCourage x = Check.port("o5;p5;");
        check.due("at first", x.undo(), -2);
        x.lends(0);
        check.due("one", x.undo(), 0);
        check.due("no more", x.undo(), -2);
        check.due("the drawer", x.now(1), -9);
        x.lends(0);
        Check.read(x, "o5;p5;");
        check.due("of a port read anew", x.undo(), -2);
    }

    // "(10 are known, older ones are lost)"
    private static void undoesTenAtMost() {
        for (int steps = 9; steps <= 12; steps++) {
            LentCourage x = at("o5;p5;", 0);
            for (int i = 1; i < steps; i++) {
                x.keeps(1);
            }
            int known = Math.min(10, steps);
            check.due(steps + " steps", x.count(5), known);
            for (int left = known - 1; left >= 0; left--) {
                check.due(steps + " steps, undo()", x.undo(), left);
            }
            check.due(steps + " steps, no more", x.undo(), -2);
            check.due(steps + " steps, who HOLDS it", x.now(1), steps > 10 ? 0 : -9);
        }
        undoesBehindLostOnes();
    }

    private static void undoesBehindLostOnes() {
        LentCourage x = at("o5;p5;", 0);
        for (int i = 1; i <= 30; i++) {
            x.keeps(1);
        }
        for (int left = 9; left >= 5; left--) {
            check.due("of 31 steps, undo()", x.undo(), left);
        }
        check.due("the HOUR by then", x.now(0), 25);
        x.keeps(2);
        check.due("one more is known", x.count(5), 6);
        for (int left = 5; left >= 0; left--) {
            check.due("undo() behind a new step", x.undo(), left);
        }
        check.due("the oldest that is known", x.now(0), 20);
        check.due("older ones are lost", x.undo(), -2);
    }

    // "UNDONE: the latest LENT, BACK, WALKED, KEPT, DONE": nothing else is a step
    private static void undoesWhatWasDoneAlone() {
        LentCourage x = at("o5;p5;p6;d0 5 0 9 1;", 0);
        int[] asked = {
            x.lends(0), x.lends(1), x.walks(5), x.walks(31), x.keeps(0), x.does(1), x.round(-1),
            x.spoons(), x.drawn(1, 2), x.odds(1, 1, 0), x.hears(0, 5), x.lies(), x.had(5),
            x.forget(), x.mark(5, 0), x.keep(0), x.type('p'), x.clear()
        };
        check.due("all of these", asked.length, 18);
        check.due("one step", x.count(5), 1);
        x.does(0);
        check.due("two steps", x.count(5), 2);
        check.due("DONE is undone", x.undo(), 1);
        check.due("FRESH again", x.now(2), 1);
        check.due("not DONE", x.now(4), 0);
        check.due("WORTH", x.now(5), 0);
        check.due("LENT is undone", x.undo(), 0);
        check.due("who HOLDS it", x.now(1), -9);
    }

    // "CARE of one: hours since he HELD it last (0: he does; since hour 0, if he never did)"
    private static void careOfEach() {
        LentCourage x = at("o5;p5;p5;p9;", 0);
        Check.keepFor(x, 7);
        check.due("he HOLDS it", x.one(0, 3), 0);
        check.due("never HELD it", x.one(1, 3), 7);
        x.lends(1);
        check.due("HELD it just now", x.one(0, 3), 0);
        check.due("he HOLDS it now", x.one(1, 3), 0);
        Check.keepFor(x, 1);
        check.due("an hour since", x.one(0, 3), 1);
        check.due("never, still", x.one(2, 3), 8);
        x.brings();
        check.due("brought just now", x.one(1, 3), 0);
        x.lends(0);
        check.due("HOLDS it again", x.one(0, 3), 0);
        Check.keepFor(x, 192);
        check.due("the HOUR", x.now(0), 200);
        check.due("since hour 0", x.one(2, 3), 200);
        check.due("since hour 8", x.one(1, 3), 192);
        x.undo();
        check.due("UNDONE, too", x.one(2, 3), 188);
    }
}
