import java.util.Random;

/** Runs of calls by a fixed seed, each answer compared with the model's; all promises. */
public final class ModelTest {
    private static final Check check = new Check("ModelTest");
    private static final int RUNS = 1500;
    private static final int STEPS = 130;

    private final Random random;
    private final LentCourage x = new LentCourage();
    private final Model model = new Model();
    private final String run;

    private ModelTest(int seed) {
        random = new Random(seed);
        run = "run " + seed + ": ";
    }

    public static void main(String[] args) {
        for (int seed = 0; seed < RUNS; seed++) {
            ModelTest test = new ModelTest(seed);
            test.readText(test.text());
            for (int i = 0; i < STEPS; i++) {
                test.call();
            }
        }
        check.finish();
    }

    private int upTo(int n) {
        return random.nextInt(n + 1);
    }

    /** Mostly 0 .. n, now and then just outside. */
    private int around(int n) {
        return random.nextInt(12) == 0 ? (random.nextBoolean() ? -1 : n + 1) : upTo(n);
    }

    private String text() {
        StringBuilder s = new StringBuilder();
        int spread = 1 + upTo(29);
        int span = random.nextBoolean() ? 99 : 1 + upTo(40);
        if (upTo(3) > 0) {
            s.append('o').append(upTo(spread)).append(';');
        }
        int people = 1 + upTo(5);
        for (int i = 0; i < people; i++) {
            s.append('p').append(upTo(spread)).append(';');
        }
        if (upTo(1) > 0) {
            s.append('f').append(upTo(9)).append(';');
        }
        int deeds = upTo(6) + upTo(2);
        for (int i = 0; i < deeds; i++) {
            int from = upTo(Math.min(60, span));
            int till = Math.min(99, from + upTo(span));
            s.append('d').append(upTo(people - 1)).append(' ').append(upTo(spread)).append(' ');
            s.append(from).append(' ').append(till).append(' ').append(1 + upTo(19)).append(';');
        }
        return s.toString();
    }

    private String broken(String text) {
        String signs = "pdofx;0159 !A";
        StringBuilder s = new StringBuilder(text);
        for (int i = upTo(2); i >= 0 && s.length() > 0; i--) {
            int at = random.nextInt(s.length());
            char sign = signs.charAt(random.nextInt(signs.length()));
            switch (upTo(2)) {
                case 0 -> s.setCharAt(at, sign);
                case 1 -> s.insert(at, sign);
                default -> s.deleteCharAt(at);
            }
        }
        return s.toString();
    }

    private void readText(String text) {
        for (int i = 0; i < text.length(); i++) {
            due("type", x.type(text.charAt(i)), model.type(text.charAt(i)));
        }
        due("port of " + text, x.port(), model.port());
    }

    private void due(String call, long got, long want) {
        check.due(run + call, got, want);
    }

    private void call() {
        int kind = upTo(99);
        if (kind < 45) {
            stepCall();
        } else if (kind < 60) {
            stateCall();
        } else if (kind < 97) {
            askingCall();
        } else {
            due("clear", x.clear(), model.clear());
            readText(upTo(4) > 0 ? broken(text()) : text());
        }
    }

    private void stepCall() {
        int p = around(Math.max(0, model.count(0) - 1));
        int d = around(Math.max(0, model.count(1) - 1));
        switch (upTo(6)) {
            case 0, 1 -> due("lends " + p, x.lends(p), model.lends(p));
            case 2 -> walk();
            case 3 -> {
                int n = 1 + around(upTo(3) == 0 ? 19 : 2);
                due("keeps " + n, x.keeps(n), model.keeps(n));
            }
            case 4, 5 -> due("does " + d, x.does(d), model.does(d));
            default -> due("brings", x.brings(), model.brings());
        }
        due("now(4)", x.now(4), model.now(4));
    }

    private void walk() {
        int place = around(30);
        // Mostly to where there is something to be done.
        switch (upTo(3)) {
            case 0 -> place = model.count(0) > 0 ? model.one(upTo(model.count(0) - 1), 1) : place;
            case 1 -> place = model.count(1) > 0 ? model.deed(upTo(model.count(1) - 1), 1) : place;
            case 2 -> place = model.count(2);
            default -> { }
        }
        due("walks " + place, x.walks(place), model.walks(place));
    }

    private void stateCall() {
        int i = around(1);
        int d = around(Math.max(0, model.count(1) - 1));
        int hour = around(99);
        switch (upTo(6)) {
            case 0 -> due("undo", x.undo(), model.undo());
            case 1 -> due("keep " + i, x.keep(i), model.keep(i));
            case 2 -> due("back " + i, x.back(i), model.back(i));
            case 3, 4, 5 -> due("hears " + d + " " + hour, x.hears(d, hour), model.hears(d, hour));
            default -> {
                if (upTo(2) == 0) {
                    due("forget", x.forget(), model.forget());
                }
            }
        }
    }

    private void askingCall() {
        int p = around(Math.max(0, model.count(0) - 1));
        int d = around(Math.max(0, model.count(1) - 1));
        int k = around(8);
        int what = around(6);
        int hour = around(99);
        switch (upTo(11)) {
            case 0 -> due("one " + p + " " + what, x.one(p, what), model.one(p, what));
            case 1 -> due("deed " + d + " " + what, x.deed(d, what), model.deed(d, what));
            case 2 -> due("now " + what, x.now(what), model.now(what));
            case 3 -> due("count " + what, x.count(what), model.count(what));
            case 4 -> round(around(10) - 3);
            case 5 -> due("spoons", x.spoons(), model.spoons());
            case 6 -> drawn();
            case 7 -> odds(k);
            case 8 -> due("lies", x.lies(), model.lies());
            case 9 -> due("had " + hour, x.had(hour), model.had(hour));
            case 10 -> due("mark " + what + " " + p, x.mark(what, p), model.mark(what, p));
            default -> due("trace", x.trace(), model.trace());
        }
    }

    private void round(int k) {
        due("round " + k, x.round(k), model.round(k));
    }

    private void drawn() {
        int seed = around(99999);
        int n = around(20);
        due("drawn " + seed + " " + n, x.drawn(seed, n), model.drawn(seed, n));
    }

    private void odds(int k) {
        int tenths = around(10);
        int part = around(1);
        due("odds " + tenths + " " + k + " " + part, x.odds(tenths, k, part), model.odds(tenths, k, part));
    }
}
