/** Counts answers that are not as due, and makes ports out of texts. */
final class Check {
    private final String name;
    private int asked;
    private int wrong;

    Check(String name) {
        this.name = name;
    }

    void due(String call, long got, long want) {
        asked++;
        if (got != want) {
            wrong++;
            System.out.println(name + ": " + call + " answered " + got + ", due is " + want);
        }
    }

    /** The round's numbers, then its row: {how much, the hour, the DEEDS ..}. */
    void dueRound(String when, LentCourage x, int worth, int hour, int... row) {
        due(when + " round(-1)", x.round(-1), worth);
        due(when + " round(-2)", x.round(-2), hour);
        due(when + " round(-3)", x.round(-3), row.length);
        for (int k = 0; k < 8; k++) {
            due(when + " round(" + k + ")", x.round(k), k < row.length ? row[k] : LentCourage.NONE);
        }
    }

    void dueSpoons(String text, int spoons) {
        due("spoons of " + text, port(text).spoons(), spoons);
    }

    void dueOdds(LentCourage x, int tenths, int k, int upper, int lower) {
        due("odds(" + tenths + ", " + k + ", 0)", x.odds(tenths, k, 0), upper);
        due("odds(" + tenths + ", " + k + ", 1)", x.odds(tenths, k, 1), lower);
    }

    void finish() {
        System.out.println(name + ": " + asked + " answers, " + wrong + " wrong");
        if (wrong != 0) {
            System.exit(1);
        }
    }

    static void type(LentCourage x, String text) {
        for (int i = 0; i < text.length(); i++) {
            x.type(text.charAt(i));
        }
    }

    static int read(LentCourage x, String text) {
        type(x, text);
        return x.port();
    }

    static LentCourage port(String text) {
        LentCourage x = new LentCourage();
        int items = read(x, text);
        if (items < 0) {
            throw new IllegalArgumentException("a test's text is faulty: " + text + " " + items);
        }
        return x;
    }

    /** KEPT for more hours than one call may tell. */
    static void keepFor(LentCourage x, int hours) {
        for (int left = hours; left > 0; left -= Math.min(20, left)) {
            x.keeps(Math.min(20, left));
        }
    }

    /** All that can be asked without changing anything, in one text. */
    static String everything(LentCourage x) {
        StringBuilder all = new StringBuilder();
        for (int what = 0; what < 7; what++) {
            all.append(x.count(what)).append(' ').append(x.now(what)).append(' ');
        }
        for (int p = 0; p < x.count(0); p++) {
            for (int what = 0; what < 4; what++) {
                all.append(x.one(p, what)).append(' ');
            }
        }
        for (int d = 0; d < x.count(1); d++) {
            for (int what = 0; what < 6; what++) {
                all.append(x.deed(d, what)).append(' ');
            }
        }
        for (int k = -3; k < 8; k++) {
            all.append(x.round(k)).append(' ');
        }
        for (int hour = 0; hour < 100; hour++) {
            all.append(x.had(hour)).append(' ');
        }
        all.append(x.spoons()).append(' ').append(x.drawn(17, 20)).append(' ').append(x.lies());
        all.append(' ').append(x.odds(3, 1, 0)).append('/').append(x.odds(3, 1, 1));
        return all.append(' ').append(x.trace()).toString();
    }
}
