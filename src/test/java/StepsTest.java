/** Promises 7 to 13: lends, brings, walks, keeps, does, undo, now. */
public final class StepsTest {
    private static final Check check = new Check("StepsTest");

    public static void main(String[] args) {
        aDay();
        undoesEachKind();
        now();
        check.finish();
    }

    private static void aDay() {
        LentCourage x = Check.port("o5;f2;p5;p9;d0 7 3 9 5;d1 12 5 20 8;");
        check.due("lends(0)", x.lends(0), 0);
        check.due("walks(7)", x.walks(7), 2);
        check.due("does(0) too soon", x.does(0), -2);
        check.due("keeps(1)", x.keeps(1), 3);
        check.due("does(0)", x.does(0), 5);
        check.due("walks(9)", x.walks(9), 5);
        check.due("lends(1)", x.lends(1), 3);
        check.due("walks(12)", x.walks(12), 8);
        check.due("does(1)", x.does(1), 13);
        check.due("walks(5)", x.walks(5), 15);
        check.due("brings()", x.brings(), 8);
        check.due("what all OWE", x.now(6), 11);
        check.due("CARE of the first", x.one(0, 3), 10);
        check.due("undo()", x.undo(), 9);
        check.due("who HOLDS it", x.now(1), 1);
    }

    private static void undoesEachKind() {
        LentCourage x = Check.port("o4;f0;p4;p6;d0 6 0 50 9;d1 6 0 50 4;");
        String[] states = new String[8];
        states[0] = Check.everything(x);
        x.lends(0);
        states[1] = Check.everything(x);
        x.walks(6);
        states[2] = Check.everything(x);
        x.does(0);
        states[3] = Check.everything(x);
        x.lends(1);
        states[4] = Check.everything(x);
        x.keeps(4);
        states[5] = Check.everything(x);
        x.walks(4);
        states[6] = Check.everything(x);
        x.brings();
        check.due("OWED", x.now(6), 8);
        for (int i = 6; i >= 0; i--) {
            check.due("undo()", x.undo(), i);
            check.due("all is as ahead of step " + i, Check.everything(x).equals(states[i]) ? 1 : 0, 1);
        }
    }

    private static void dueNow(LentCourage x, int... want) {
        for (int what = 0; what < 7; what++) {
            check.due("now(" + what + ")", x.now(what), want[what]);
        }
    }

    private static void now() {
        LentCourage x = Check.port("o4;f1;p4;p6;d0 5 0 50 9;d0 6 0 50 3;d1 6 0 50 4;");
        dueNow(x, 0, -9, 0, 0, 0, 0, 0);
        x.lends(0);
        dueNow(x, 0, 0, 1, 0, 0, 0, 0);
        x.walks(6);
        dueNow(x, 2, 0, 1, 2, 0, 0, 0);
        x.does(1);
        dueNow(x, 2, 0, 0, 2, 2, 3, 0);
        x.lends(1);
        dueNow(x, 2, 1, 1, 0, 2, 3, 1);
        x.does(2);
        x.walks(4);
        dueNow(x, 4, 1, 0, 2, 6, 7, 1);
        x.brings();
        dueNow(x, 4, -9, 0, 0, 6, 7, 2);
    }
}
