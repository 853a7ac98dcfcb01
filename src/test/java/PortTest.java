/** Promises 1 to 6 and 25: a new object, the text, the port, what is told of it. */
public final class PortTest {
    private static final Check check = new Check("PortTest");

    public static void main(String[] args) {
        newObject();
        constants();
        clearing();
        goodTexts();
        readAnew();
        tellsOfOne();
        tellsOfDeed();
        counts();
        check.finish();
    }

    private static void newObject() {
        LentCourage x = new LentCourage();
        int[] counts = {0, 0, 15, 3, 0, 0, 0};
        int[] now = {0, LentCourage.NONE, 0, 0, 0, 0, 0};
        for (int what = 0; what < 7; what++) {
            check.due("new count(" + what + ")", x.count(what), counts[what]);
            check.due("new now(" + what + ")", x.now(what), now[what]);
        }
        check.due("new trace()", x.trace(), 0);
        check.due("new one(0, 0)", x.one(0, 0), -1);
        check.due("new deed(0, 0)", x.deed(0, 0), -1);
        check.due("new back(0)", x.back(0), -2);
        check.due("new undo()", x.undo(), -2);
        check.due("new clear()", x.clear(), 0);
        check.due("new forget()", x.forget(), 0);
    }

    private static void constants() {
        check.due("BAD", LentCourage.BAD, -1);
        check.due("STATE", LentCourage.STATE, -2);
        check.due("FULL", LentCourage.FULL, -3);
        check.due("NONE", LentCourage.NONE, -9);
        check.due("NO", LentCourage.NO, -1000000);
    }

    private static void clearing() {
        LentCourage x = Check.port("p4;p5;");
        Check.type(x, "zzz");
        check.due("clear()", x.clear(), 3);
        check.due("clear() again", x.clear(), 0);
        check.due("people stay after clear", x.count(0), 2);
        check.due("port after clear and anew", Check.read(x, "p7;"), 1);
    }

    private static void dueItems(String text, int items) {
        LentCourage x = new LentCourage();
        check.due("port of '" + text + "'", Check.read(x, text), items);
        check.due("text left of '" + text + "'", x.count(6), 0);
    }

    private static void goodTexts() {
        dueItems("", 0);
        dueItems("p0;", 1);
        dueItems("  p  30  ;  ", 1);
        dueItems("p0;p1;p2;p3;p4;p5;", 6);
        dueItems("f9;o30;", 2);
        dueItems("p1;o2;d0 30 99 99 20;f1;p3;d1 0 0 0 1;", 6);
        dueItems("p1;" + "d0 1 2 3 4;".repeat(8), 9);
    }

    private static void readAnew() {
        LentCourage x = Check.port("o5;f1;p5;p5;d0 5 0 9 3;");
        x.lends(0);
        x.does(0);
        x.keeps(7);
        x.lends(1);
        x.hears(0, 4);
        x.mark(5, 1);
        x.keep(0);
        x.keep(1);
        check.due("anew port()", Check.read(x, "p6;p5;d1 5 1 9 3;"), 3);
        int[] counts = {2, 1, 15, 3, 0, 0, 0};
        int[] now = {0, LentCourage.NONE, 0, 0, 0, 0, 0};
        for (int what = 0; what < 7; what++) {
            check.due("anew count(" + what + ")", x.count(what), counts[what]);
            check.due("anew now(" + what + ")", x.now(what), now[what]);
        }
        check.due("anew one(0, 1)", x.one(0, 1), 6);
        check.due("anew one(0, 2)", x.one(0, 2), 0);
        check.due("anew one(0, 3)", x.one(0, 3), 0);
        check.due("anew deed(0, 5)", x.deed(0, 5), 0);
        check.due("anew back(0)", x.back(0), -2);
        check.due("anew back(1)", x.back(1), -2);
        check.due("anew undo()", x.undo(), -2);
        check.due("anew trace()", x.trace(), 100001);
        check.due("anew from nothing", x.port(), 0);
        check.due("anew nobody", x.count(0), 0);
    }

    private static void tellsOfOne() {
        LentCourage x = Check.port("o9;f0;p9;p30;");
        x.lends(0);
        x.walks(30);
        check.due("HOME", x.one(0, 0), 9);
        check.due("where he is", x.one(0, 1), 30);
        check.due("OWES while he HOLDS it", x.one(0, 2), 0);
        check.due("CARE of who HOLDS it", x.one(0, 3), 0);
        check.due("CARE of one who never did", x.one(1, 3), 21);
        x.lends(1);
        check.due("OWES", x.one(0, 2), 21);
        x.keeps(4);
        check.due("CARE since he gave it", x.one(0, 3), 4);
        check.due("CARE of the other now", x.one(1, 3), 0);
    }

    private static void tellsOfDeed() {
        LentCourage x = Check.port("o4;p4;p7;d1 6 11 22 13;d0 4 0 5 20;");
        int[] first = {1, 6, 11, 22, 13, 0};
        int[] second = {0, 4, 0, 5, 20, 1};
        x.lends(0);
        x.does(1);
        for (int what = 0; what < 6; what++) {
            check.due("deed(0, " + what + ")", x.deed(0, what), first[what]);
            check.due("deed(1, " + what + ")", x.deed(1, what), second[what]);
        }
    }

    private static void counts() {
        LentCourage x = Check.port("o4;f8;p4;p7;p7;d1 6 11 22 13;d0 4 0 5 20;");
        x.hears(0, 1);
        x.hears(0, 1);
        x.hears(1, 2);
        x.lends(0);
        x.keeps(1);
        Check.type(x, "four");
        int[] counts = {3, 2, 4, 8, 3, 2, 4};
        for (int what = 0; what < 7; what++) {
            check.due("count(" + what + ")", x.count(what), counts[what]);
        }
    }
}
