/** Promises 22 to 24 and 26: mark, keep, back, trace. */
public final class KindsTest {
    private static final Check check = new Check("KindsTest");

    public static void main(String[] args) {
        marks();
        marksRefused();
        images();
        imagesKeepSteps();
        imagesKeepNothingElse();
        traceStays();
        check.finish();
    }

    private static LentCourage lentPort() {
        LentCourage x = Check.port("o4;f0;p4;p9;");
        x.lends(0);
        x.walks(9);
        x.lends(1);
        x.keeps(3);
        return x;
    }

    private static void dueMark(LentCourage x, int kind, int p, int mark, long trace) {
        check.due("mark(" + kind + ", " + p + ")", x.mark(kind, p), mark);
        check.due("trace() behind mark(" + kind + ", " + p + ")", x.trace(), trace);
    }

    private static void marks() {
        LentCourage x = lentPort();
        dueMark(x, 0, 0, 3, 1);
        dueMark(x, 1, 0, 8, 12);
        dueMark(x, 2, 0, -6, 113);
        dueMark(x, 3, 0, 16, 1124);
        dueMark(x, 4, 0, -6, 11225);
        dueMark(x, 5, 0, 11, 111226);
        dueMark(x, 4, 1, -8, 121327);
        dueMark(x, 5, 1, 8, 221328);
        dueMark(x, 3, 1, 0, 222339);
    }

    private static void marksRefused() {
        LentCourage x = lentPort();
        check.due("mark(-1, 0)", x.mark(-1, 0), -1000000);
        check.due("mark(6, 0)", x.mark(6, 0), -1000000);
        check.due("mark(0, -1)", x.mark(0, -1), -1000000);
        check.due("mark(0, 2)", x.mark(0, 2), -1000000);
        check.due("nobody", new LentCourage().mark(0, 0), -1000000);
        check.due("trace() of none", x.trace(), 0);
    }

    private static void images() {
        LentCourage x = lentPort();
        check.due("keep(-1)", x.keep(-1), -1);
        check.due("keep(2)", x.keep(2), -1);
        check.due("back(-1)", x.back(-1), -1);
        check.due("back(2)", x.back(2), -1);
        check.due("back(0) of none", x.back(0), -2);
        String first = Check.everything(x);
        check.due("keep(0)", x.keep(0), 8);
        check.due("back(1) of none", x.back(1), -2);
        x.walks(4);
        x.brings();
        String second = Check.everything(x);
        check.due("keep(1)", x.keep(1), 13);
        dueBack(x, 0, 8, first);
        x.keeps(20);
        dueBack(x, 1, 13, second);
        dueBack(x, 0, 8, first);
        x.keeps(2);
        check.due("keep(0) over it", x.keep(0), 10);
        x.undo();
        check.due("back(0) as kept last", x.back(0), 10);
    }

    private static void dueBack(LentCourage x, int image, int hour, String all) {
        check.due("back(" + image + ")", x.back(image), hour);
        check.due("all as in image " + image, Check.everything(x).equals(all) ? 1 : 0, 1);
    }

    private static void imagesKeepSteps() {
        LentCourage x = lentPort();
        x.keep(0);
        for (int i = 0; i < 12; i++) {
            x.keeps(1);
        }
        x.keep(1);
        check.due("back(0)", x.back(0), 8);
        check.due("undo()", x.undo(), 3);
        check.due("hour", x.now(0), 5);
        x.keeps(9);
        x.keeps(9);
        check.due("back(0) anew", x.back(0), 8);
        check.due("steps", x.count(5), 4);
        for (int i = 3; i >= 0; i--) {
            check.due("undo()", x.undo(), i);
        }
        check.due("all undone", x.now(1), -9);
        check.due("back(1)", x.back(1), 20);
        for (int i = 9; i >= 0; i--) {
            check.due("undo()", x.undo(), i);
            check.due("hour", x.now(0), 10 + i);
        }
    }

    private static void imagesKeepNothingElse() {
        LentCourage x = lentPort();
        Check.read(x, "o4;p4;p4;d0 4 0 9 1;");
        x.keep(0);
        x.hears(0, 3);
        x.mark(0, 0);
        Check.type(x, "ab");
        x.lends(0);
        x.does(0);
        check.due("back(0)", x.back(0), 0);
        check.due("HEARD stays", x.count(4), 1);
        check.due("THE TRACE stays", x.trace(), 1);
        check.due("THE TEXT stays", x.count(6), 2);
        check.due("DONE is as kept", x.now(4), 0);
        check.due("back and keep are no steps", x.count(5), 0);
    }

    private static void traceStays() {
        LentCourage x = lentPort();
        x.mark(4, 1);
        x.undo();
        check.due("trace() is not undone", x.trace(), 10101);
        Check.read(x, "p1;");
        check.due("trace() of a port anew", x.trace(), 10101);
        for (int i = 0; i < 400; i++) {
            x.mark(5, 0);
        }
        check.due("trace() of many", x.trace(), 10101 + 400 * 100001L);
    }
}
