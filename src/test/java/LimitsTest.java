/** Wrong numbers in all states: each is refused, nothing changes, nothing is thrown. */
public final class LimitsTest {
    private static final Check check = new Check("LimitsTest");
    private static final int[] WRONG = {
        Integer.MIN_VALUE, Integer.MIN_VALUE + 1, -65536, -1000, -10, -9, -4,
        100000, 1 << 20, 1 << 30, Integer.MAX_VALUE - 200, Integer.MAX_VALUE
    };

    public static void main(String[] args) {
        refuses("new", new LentCourage());
        refuses("of a port", Check.port("o5;f1;p5;p8;d0 5 0 9 3;d1 8 2 30 3;"));
        refuses("when lent", busyPort());
        refuses("when all is full", fullPort());
        check.finish();
    }

    private static LentCourage busyPort() {
        LentCourage x = Check.port("o5;f1;p5;p8;d0 5 0 9 3;d1 8 2 30 3;");
        x.lends(0);
        x.does(0);
        x.walks(8);
        x.keep(0);
        x.lends(1);
        x.hears(0, 9);
        return x;
    }

    private static LentCourage fullPort() {
        LentCourage x = Check.port("o5;p5;p5;p5;p5;p5;p5;" + "d0 5 0 9 3;".repeat(8));
        x.lends(5);
        for (int i = 0; i < 11; i++) {
            x.keeps(18);
        }
        for (int i = 0; i < 6; i++) {
            x.hears(7, 99);
        }
        for (int i = 0; i < 180; i++) {
            x.type(0);
        }
        x.keep(0);
        x.keep(1);
        return x;
    }

    private static void refuses(String state, LentCourage x) {
        String ahead = Check.everything(x);
        for (int n : WRONG) {
            String where = state + ", " + n + ": ";
            check.due(where + "type", x.type(n), -1);
            check.due(where + "one", x.one(n, 0), -1);
            check.due(where + "one what", x.one(0, n), -1);
            check.due(where + "deed", x.deed(n, 0), -1);
            check.due(where + "deed what", x.deed(0, n), -1);
            check.due(where + "lends", x.lends(n), -1);
            check.due(where + "walks", x.walks(n), -1);
            check.due(where + "keeps", x.keeps(n), -1);
            check.due(where + "does", x.does(n), -1);
            check.due(where + "now", x.now(n), -1);
            check.due(where + "round", x.round(n), -1);
            check.due(where + "drawn seed", x.drawn(n, 5), -1);
            check.due(where + "drawn n", x.drawn(5, n), -1);
            check.due(where + "odds x", x.odds(n, 0, 0), -1);
            check.due(where + "odds k", x.odds(0, n, 0), -1);
            check.due(where + "odds what", x.odds(0, 0, n), -1);
            check.due(where + "hears", x.hears(n, 0), -1);
            check.due(where + "hears hour", x.hears(0, n), -1);
            check.due(where + "had", x.had(n), -1);
            check.due(where + "mark", x.mark(n, 0), LentCourage.NO);
            check.due(where + "mark of", x.mark(0, n), LentCourage.NO);
            check.due(where + "keep", x.keep(n), -1);
            check.due(where + "back", x.back(n), -1);
            check.due(where + "count", x.count(n), -1);
        }
        check.due(state + ": nothing changes", Check.everything(x).equals(ahead) ? 1 : 0, 1);
    }
}
