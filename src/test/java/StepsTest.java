/** Promises 7 to 13: lends, brings, walks, keeps, does, undo, now. */
public final class StepsTest {
    private static final Check check = new Check("StepsTest");

    public static void main(String[] args) {
        lends();
        brings();
        walks();
        keeps();
        does();
        undo();
        undoesEachKind();
        now();
        check.finish();
    }

    private static void lends() {
        LentCourage x = Check.port("o4;f2;p4;p4;p9;");
        check.due("lends(-1)", x.lends(-1), -1);
        check.due("lends(3)", x.lends(3), -1);
        check.due("lends to one elsewhere", x.lends(2), -2);
        check.due("the drawer lends", x.lends(0), 0);
        check.due("lends to who HOLDS it", x.lends(0), -2);
        x.keeps(2);
        check.due("within FREE", x.lends(1), 0);
        x.keeps(3);
        check.due("an hour beyond FREE", x.lends(0), 1);
        check.due("HELD for no time", x.lends(1), 0);
        x.walks(9);
        check.due("OWES more, now in all", x.lends(2), 4);
        check.due("one(1, 2)", x.one(1, 2), 4);
        check.due("lends to one who stayed", x.lends(0), -2);
        check.due("holder", x.now(1), 2);
        check.due("FRESH", x.now(2), 1);
    }

    private static void brings() {
        LentCourage x = Check.port("o4;f2;p4;p9;");
        check.due("nobody brings", x.brings(), -2);
        x.lends(0);
        x.walks(5);
        check.due("not at the OFFICE", x.brings(), -2);
        x.walks(4);
        check.due("within FREE", x.brings(), 0);
        check.due("the drawer HOLDS it", x.now(1), -9);
        check.due("the drawer isn't FRESH", x.now(2), 0);
        check.due("brings again", x.brings(), -2);
        x.lends(0);
        x.keeps(9);
        check.due("beyond FREE", x.brings(), 7);
        x.lends(0);
        x.keeps(3);
        check.due("OWES in all", x.brings(), 8);
        check.due("one(0, 3) just now", x.one(0, 3), 0);
    }

    private static void walks() {
        LentCourage x = Check.port("o4;p4;");
        check.due("walks(-1)", x.walks(-1), -1);
        check.due("walks(31)", x.walks(31), -1);
        check.due("nobody walks", x.walks(5), -2);
        x.lends(0);
        check.due("walks to where he is", x.walks(4), -2);
        check.due("walks(0)", x.walks(0), 4);
        check.due("walks(30)", x.walks(30), 34);
        check.due("where he is", x.one(0, 1), 30);
        for (int i = 0; i < 8; i++) {
            x.keeps(20);
        }
        check.due("hour", x.now(0), 194);
        check.due("later than 200", x.walks(23), -2);
        check.due("still there", x.one(0, 1), 30);
        check.due("just 200", x.walks(24), 200);
        check.due("no more", x.walks(25), -2);
    }

    private static void keeps() {
        LentCourage x = Check.port("o4;p4;");
        check.due("keeps(0)", x.keeps(0), -1);
        check.due("keeps(21)", x.keeps(21), -1);
        check.due("keeps(-5)", x.keeps(-5), -1);
        check.due("nobody keeps", x.keeps(1), -2);
        x.lends(0);
        check.due("keeps(1)", x.keeps(1), 1);
        for (int i = 0; i < 9; i++) {
            check.due("keeps(20)", x.keeps(20), 21 + 20 * i);
        }
        check.due("later than 200", x.keeps(20), -2);
        check.due("just 200", x.keeps(19), 200);
        check.due("beyond 200", x.keeps(1), -2);
    }

    private static void does() {
        LentCourage x = Check.port("o4;p4;p4;d0 4 2 3 5;d0 4 0 99 7;d1 4 0 99 11;d0 6 0 99 1;");
        check.due("does(-1)", x.does(-1), -1);
        check.due("does(4)", x.does(4), -1);
        check.due("nobody does", x.does(1), -2);
        x.lends(0);
        check.due("another's", x.does(2), -2);
        check.due("elsewhere", x.does(3), -2);
        x.keeps(1);
        check.due("too soon", x.does(0), -2);
        x.keeps(1);
        check.due("in the hour FROM", x.does(0), 5);
        check.due("not FRESH any more", x.now(2), 0);
        check.due("not FRESH", x.does(1), -2);
        x.lends(1);
        check.due("the other's, all WORTH", x.does(2), 16);
        x.lends(0);
        check.due("DONE", x.does(0), -2);
        check.due("FRESH still", x.does(1), 23);
        check.due("bits", x.now(4), 7);
        tillIsTheLastHour();
    }

    private static void tillIsTheLastHour() {
        LentCourage x = Check.port("o4;p4;p4;d0 4 2 3 5;");
        x.lends(0);
        x.keeps(3);
        x.keep(0);
        check.due("in the hour TILL", x.does(0), 5);
        x.back(0);
        x.keeps(1);
        check.due("behind TILL", x.does(0), -2);
    }

    private static void undo() {
        LentCourage x = Check.port("o4;p4;");
        check.due("none", x.undo(), -2);
        x.lends(0);
        for (int i = 1; i <= 12; i++) {
            x.keeps(1);
            check.due("how many may be after " + i, x.count(5), Math.min(10, i + 1));
        }
        for (int i = 9; i >= 0; i--) {
            check.due("undo()", x.undo(), i);
            check.due("hour", x.now(0), 2 + i);
        }
        check.due("older ones are lost", x.undo(), -2);
        check.due("hour stays", x.now(0), 2);
        check.due("refused calls are no steps", x.keeps(0) + x.does(0) + x.walks(4), -4);
        check.due("still none", x.undo(), -2);
        x.keeps(5);
        check.due("anew", x.undo(), 0);
    }

    private static void undoesEachKind() {
        LentCourage x = Check.port("o4;f0;p4;p6;d0 6 0 50 9;d1 6 0 50 4;");
        String[] states = new String[8];
        states[0] = Check.everything(x);
        x.lends(0);
        states[1] = Check.everything(x);
        x.walks(6);
        states[2] = Check.everything(x);
        x.does(0);
        states[3] = Check.everything(x);
        x.lends(1);
        states[4] = Check.everything(x);
        x.keeps(4);
        states[5] = Check.everything(x);
        x.walks(4);
        states[6] = Check.everything(x);
        x.brings();
        check.due("OWED", x.now(6), 8);
        for (int i = 6; i >= 0; i--) {
            check.due("undo()", x.undo(), i);
            check.due("all is as ahead of step " + i, Check.everything(x).equals(states[i]) ? 1 : 0, 1);
        }
    }

    private static void dueNow(LentCourage x, int... want) {
        for (int what = 0; what < 7; what++) {
            check.due("now(" + what + ")", x.now(what), want[what]);
        }
    }

    private static void now() {
        LentCourage x = Check.port("o4;f1;p4;p6;d0 5 0 50 9;d0 6 0 50 3;d1 6 0 50 4;");
        dueNow(x, 0, -9, 0, 0, 0, 0, 0);
        x.lends(0);
        dueNow(x, 0, 0, 1, 0, 0, 0, 0);
        x.walks(6);
        dueNow(x, 2, 0, 1, 2, 0, 0, 0);
        x.does(1);
        dueNow(x, 2, 0, 0, 2, 2, 3, 0);
        x.lends(1);
        dueNow(x, 2, 1, 1, 0, 2, 3, 1);
        x.does(2);
        x.walks(4);
        dueNow(x, 4, 1, 0, 2, 6, 7, 1);
        x.brings();
        dueNow(x, 4, -9, 0, 0, 6, 7, 2);
        check.due("now(-1)", x.now(-1), -1);
        check.due("now(7)", x.now(7), -1);
    }
}
