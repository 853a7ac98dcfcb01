import java.util.LinkedHashMap;
import java.util.List;
import java.util.Map;
import java.util.function.Supplier;

/**
 * "Refused, and nothing changes, the first of these: BAD (a number is not as told, or there is no such
 * thing), STATE (as told), FULL." In states of all sorts: what is refused, how, and that nothing changes;
 * and that what is only asked changes nothing, either.
 */
public final class RefusalsTest {
    private static final Check check = new Check("RefusalsTest");
    private static final String PORT = "o5;f1;p5;p5;p8;d0 5 0 9 3;d0 8 2 30 4;d2 8 2 30 5;";
    private static final int[] WRONG = {
        Integer.MIN_VALUE, Integer.MIN_VALUE + 1, -65536, -1000, -4,
        100000, 1 << 20, Integer.MAX_VALUE - 200, Integer.MAX_VALUE
    };

    public static void main(String[] args) {
        Map<String, Supplier<LentCourage>> states = new LinkedHashMap<>();
        states.put("new", LentCourage::new);
        states.put("at first", () -> Check.port(PORT));
        states.put("lent", RefusalsTest::lent);
        states.put("done", RefusalsTest::done);
        states.put("brought", RefusalsTest::brought);
        states.put("late", RefusalsTest::late);
        states.put("full", RefusalsTest::full);
        states.forEach((name, maker) -> {
            Twins twins = new Twins(check, name, maker);
            badNumbers(twins, numbers(maker.get().count(0), maker.get().count(1)));
            asking(twins);
        });
        stateOfNothingDone(new Twins(check, "new", LentCourage::new));
        stateOfNothingDone(new Twins(check, "at first", () -> Check.port(PORT)));
        stateOfNobody(new Twins(check, "at first", () -> Check.port(PORT)), 2);
        stateOfNobody(new Twins(check, "brought", RefusalsTest::brought), 0);
        stateOfLent(new Twins(check, "lent", RefusalsTest::lent));
        stateOfDone(new Twins(check, "done", RefusalsTest::done));
        stateOfLate(new Twins(check, "late", RefusalsTest::late));
        fullOfAll(new Twins(check, "full", RefusalsTest::full));
        faultyTexts();
        check.finish();
    }

    /** One HOLDS it FRESH, two of them at the OFFICE; something is typed, HEARD, kept. */
    private static LentCourage lent() {
        LentCourage x = Check.port(PORT);
        x.lends(1);
        x.keep(0);
        x.keeps(1);
        x.lends(0);
        x.hears(1, 9);
        x.hears(2, 9);
        x.mark(3, 1);
        Check.type(x, "o7;p6");
        return x;
    }

    /** One HOLDS it, not FRESH, away from the OFFICE, beside another one. */
    private static LentCourage done() {
        LentCourage x = lent();
        x.does(0);
        x.walks(8);
        x.lends(2);
        x.does(2);
        x.keep(1);
        x.keeps(4);
        return x;
    }

    private static LentCourage brought() {
        LentCourage x = done();
        x.walks(5);
        x.brings();
        return x;
    }

    /** One HOLDS it FRESH at hour 200; the oldest steps are lost. */
    private static LentCourage late() {
        LentCourage x = lent();
        for (int i = 0; i < 9; i++) {
            x.keeps(20);
        }
        x.keeps(19);
        x.keep(1);
        return x;
    }

    private static LentCourage full() {
        LentCourage x = late();
        for (int i = 2; i < 6; i++) {
            x.hears(i % 3, 20 * i - 1);
        }
        Check.type(x, " ".repeat(180 - x.count(6)));
        return x;
    }

    private interface Call {
        long on(LentCourage x, int n);
    }

    /** A number of a call: the last one below those that are as told, the first one above. */
    private record Number(String call, int below, int above, int refusal, Call made) { }

    private static List<Number> numbers(int people, int deeds) {
        int p = Math.max(0, people - 1);
        int d = Math.max(0, deeds - 1);
        return List.of(
            new Number("type", -1, 256, -1, LentCourage::type),
            new Number("one", -1, people, -1, (x, n) -> x.one(n, 0)),
            new Number("one, what", -1, 4, -1, (x, n) -> x.one(p, n)),
            new Number("deed", -1, deeds, -1, (x, n) -> x.deed(n, 0)),
            new Number("deed, what", -1, 6, -1, (x, n) -> x.deed(d, n)),
            new Number("lends", -1, people, -1, LentCourage::lends),
            new Number("walks", -1, 31, -1, LentCourage::walks),
            new Number("keeps", 0, 21, -1, LentCourage::keeps),
            new Number("does", -1, deeds, -1, LentCourage::does),
            new Number("now", -1, 7, -1, LentCourage::now),
            new Number("round", -4, 8, -1, LentCourage::round),
            new Number("drawn by", -1, 100000, -1, (x, n) -> x.drawn(n, 20)),
            new Number("drawn, n", -1, 21, -1, (x, n) -> x.drawn(99999, n)),
            new Number("odds by", -1, 11, -1, (x, n) -> x.odds(n, 8, 1)),
            new Number("odds, k", -1, 9, -1, (x, n) -> x.odds(10, n, 1)),
            new Number("odds, what", -1, 2, -1, (x, n) -> x.odds(10, 8, n)),
            new Number("hears", -1, deeds, -1, (x, n) -> x.hears(n, 9)),
            new Number("hears, hour", -1, 100, -1, (x, n) -> x.hears(d, n)),
            new Number("had", -1, 100, -1, LentCourage::had),
            new Number("mark as", -1, 6, LentCourage.NO, (x, n) -> x.mark(n, p)),
            new Number("mark of", -1, people, LentCourage.NO, (x, n) -> x.mark(5, n)),
            new Number("keep", -1, 2, -1, LentCourage::keep),
            new Number("back", -1, 2, -1, LentCourage::back),
            new Number("count", -1, 7, -1, LentCourage::count));
    }

    private static void badNumbers(Twins twins, List<Number> numbers) {
        for (Number number : numbers) {
            refuse(twins, number, number.below);
            refuse(twins, number, number.above);
            for (int n : WRONG) {
                refuse(twins, number, n);
            }
        }
    }

    private static void refuse(Twins twins, Number number, int n) {
        twins.refuse(number.call + " " + n, number.refusal, x -> number.made.on(x, n));
    }

    // "(Nothing is changed.)"
    private static void asking(Twins twins) {
        for (int i = -3; i < 8; i++) {
            int n = i;
            twins.leave("round " + n, x -> x.round(n));
            twins.leave("one " + n, x -> x.one(0, n));
            twins.leave("deed " + n, x -> x.deed(n, 5));
            twins.leave("now " + n, x -> x.now(n));
            twins.leave("count " + n, x -> x.count(n));
            twins.leave("drawn " + n, x -> x.drawn(1000 + n, 20));
            twins.leave("odds " + n, x -> x.odds(n, 1, 0));
            twins.leave("had " + n, x -> x.had(10 + n));
        }
        twins.leave("spoons", LentCourage::spoons);
        twins.leave("lies", LentCourage::lies);
        twins.leave("trace", LentCourage::trace);
    }

    private static void stateOfNothingDone(Twins twins) {
        twins.refuse("nothing to be UNDONE", -2, LentCourage::undo);
        twins.refuse("no IMAGE 0", -2, x -> x.back(0));
        twins.refuse("no IMAGE 1", -2, x -> x.back(1));
        twins.refuse("nobody brings", -2, LentCourage::brings);
        twins.refuse("nobody walks", -2, x -> x.walks(0));
        twins.refuse("nobody keeps", -2, x -> x.keeps(20));
    }

    private static void stateOfNobody(Twins twins, int elsewhere) {
        twins.refuse("lends to one elsewhere", -2, x -> x.lends(elsewhere));
        twins.refuse("nobody brings", -2, LentCourage::brings);
        twins.refuse("nobody walks", -2, x -> x.walks(6));
        twins.refuse("nobody keeps", -2, x -> x.keeps(1));
        twins.refuse("nobody does", -2, x -> x.does(1));
    }

    private static void stateOfLent(Twins twins) {
        twins.refuse("he HOLDS it", -2, x -> x.lends(0));
        twins.refuse("he is elsewhere", -2, x -> x.lends(2));
        twins.refuse("he is there", -2, x -> x.walks(5));
        twins.refuse("another PLACE's DEED", -2, x -> x.does(1));
        twins.refuse("another's DEED", -2, x -> x.does(2));
        twins.refuse("an IMAGE that was not kept", -2, x -> x.back(1));
    }

    private static void stateOfDone(Twins twins) {
        twins.refuse("not at the OFFICE", -2, LentCourage::brings);
        twins.refuse("DONE", -2, x -> x.does(2));
        twins.refuse("another's, not FRESH", -2, x -> x.does(1));
        twins.refuse("he HOLDS it", -2, x -> x.lends(2));
        twins.refuse("he is elsewhere", -2, x -> x.lends(1));
        twins.refuse("he is there", -2, x -> x.walks(8));
    }

    private static void stateOfLate(Twins twins) {
        twins.refuse("walks beyond 200", -2, x -> x.walks(6));
        twins.refuse("keeps beyond 200", -2, x -> x.keeps(1));
        twins.refuse("behind TILL", -2, x -> x.does(0));
    }

    private static void fullOfAll(Twins twins) {
        twins.refuse("a byte too many", -3, x -> x.type(0));
        twins.refuse("one HEARD too many", -3, x -> x.hears(0, 0));
        twins.refuse("one HEARD too many, behind all", -3, x -> x.hears(2, 99));
        twins.refuse("a text that ends too early", -10 - 180, LentCourage::port);
    }

    // port: "-10 less FAULT: nothing changes"
    private static void faultyTexts() {
        String[] faulty = {
            "!", "o1;f9;p1;p2;p3;p4;p5;p6;p7;", "o1;f9;p1;d0 1 2 3 4;d0 1 2 1 4;", "o1;o1;", "f1;f", "p1;p"
        };
        int[] faults = {0, 24, 27, 3, 3, 4};
        for (int i = 0; i < faulty.length; i++) {
            String text = faulty[i];
            Twins twins = new Twins(check, "with " + text, () -> {
                LentCourage x = done();
                x.clear();
                Check.type(x, text);
                return x;
            });
            twins.refuse("port", -10 - faults[i], LentCourage::port);
        }
    }
}
