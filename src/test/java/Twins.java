import java.util.ArrayList;
import java.util.List;
import java.util.function.Function;
import java.util.function.Supplier;
import java.util.function.ToLongFunction;

/**
 * Shows that a call changes nothing: of two twins only one makes it, and from then on both answer
 * alike, whatever is asked or done. What is done then changes them, so each look takes new twins.
 */
final class Twins {
    private static final List<Function<LentCourage, String>> LOOKS = List.of(
        Twins::all, Twins::allUndone, x -> allOfImage(x, 0), x -> allOfImage(x, 1),
        Twins::textReadOn, Twins::heardOn, Twins::goneOn);

    private final Check check;
    private final String state;
    private final Supplier<LentCourage> maker;
    private final List<String> seen = new ArrayList<>();

    Twins(Check check, String state, Supplier<LentCourage> maker) {
        this.check = check;
        this.state = state;
        this.maker = maker;
        for (Function<LentCourage, String> look : LOOKS) {
            seen.add(look.apply(maker.get()));
        }
    }

    /** The call answers as due, and nothing has changed by it. */
    void refuse(String call, long due, ToLongFunction<LentCourage> made) {
        check.due(state + ": " + call, made.applyAsLong(maker.get()), due);
        leave(call, made);
    }

    /** Nothing has changed by the call, whatever it answers. */
    void leave(String call, ToLongFunction<LentCourage> made) {
        for (int i = 0; i < LOOKS.size(); i++) {
            LentCourage x = maker.get();
            made.applyAsLong(x);
            boolean same = LOOKS.get(i).apply(x).equals(seen.get(i));
            check.due(state + ": " + call + " changes what is seen by look " + i, same ? 0 : 1, 0);
        }
    }

    private static String all(LentCourage x) {
        return Check.everything(x);
    }

    private static String now(LentCourage x) {
        StringBuilder s = new StringBuilder();
        for (int what = 0; what < 7; what++) {
            s.append(x.now(what)).append(' ');
        }
        for (int p = 0; p < x.count(0); p++) {
            s.append(x.one(p, 1)).append(' ').append(x.one(p, 2)).append(' ').append(x.one(p, 3)).append(' ');
        }
        return s.append('\n').toString();
    }

    private static String allUndone(LentCourage x) {
        StringBuilder s = new StringBuilder(now(x));
        for (int i = 0; i <= 10; i++) {
            s.append(x.undo()).append(": ").append(now(x));
        }
        return s.toString();
    }

    private static String allOfImage(LentCourage x, int image) {
        return x.back(image) + " " + x.count(5) + " " + allUndone(x);
    }

    private static String textReadOn(LentCourage x) {
        StringBuilder s = new StringBuilder();
        s.append(x.type(';')).append(' ').append(x.port()).append(' ').append(x.count(6)).append('\n');
        return s.append(Check.everything(x)).toString();
    }

    private static String heardOn(LentCourage x) {
        StringBuilder s = new StringBuilder();
        s.append(x.hears(0, 50)).append(' ').append(x.lies()).append(' ').append(x.had(49));
        return s.append(' ').append(x.forget()).append(' ').append(x.had(49)).toString();
    }

    private static String goneOn(LentCourage x) {
        StringBuilder s = new StringBuilder();
        s.append(x.mark(5, 0)).append(' ').append(x.trace()).append(' ');
        s.append(x.does(1)).append(' ').append(x.keeps(1)).append(' ').append(x.lends(1)).append(' ');
        s.append(x.brings()).append(' ').append(x.lends(0)).append(' ').append(x.walks(3)).append('\n');
        return s.append(now(x)).append(x.keep(0)).append(allUndone(x)).toString();
    }
}
