/** Promises 22 to 24 and 26: mark, keep, back, trace. */
public final class KindsTest {
    private static final Check check = new Check("KindsTest");

    public static void main(String[] args) {
        marks();
        images();
        check.finish();
    }

    private static LentCourage lentPort() {
        LentCourage x = Check.port("o4;f0;p4;p9;");
        x.lends(0);
        x.walks(9);
        x.lends(1);
        x.keeps(3);
        return x;
    }

    private static void dueMark(LentCourage x, int kind, int p, int mark, long trace) {
        check.due("mark(" + kind + ", " + p + ")", x.mark(kind, p), mark);
        check.due("trace() behind mark(" + kind + ", " + p + ")", x.trace(), trace);
    }

    private static void marks() {
        LentCourage x = lentPort();
        dueMark(x, 0, 0, 3, 1);
        dueMark(x, 1, 0, 8, 12);
        dueMark(x, 2, 0, -6, 113);
        dueMark(x, 3, 0, 16, 1124);
        dueMark(x, 4, 0, -6, 11225);
        dueMark(x, 5, 0, 11, 111226);
        dueMark(x, 4, 1, -8, 121327);
        dueMark(x, 5, 1, 8, 221328);
        dueMark(x, 3, 1, 0, 222339);
    }

    private static void images() {
        LentCourage x = lentPort();
        String first = Check.everything(x);
        check.due("keep(0)", x.keep(0), 8);
        x.walks(4);
        x.brings();
        String second = Check.everything(x);
        check.due("keep(1)", x.keep(1), 13);
        dueBack(x, 0, 8, first);
        x.keeps(20);
        dueBack(x, 1, 13, second);
        dueBack(x, 0, 8, first);
        x.keeps(2);
        check.due("keep(0) over it", x.keep(0), 10);
        x.undo();
        check.due("back(0) as kept last", x.back(0), 10);
    }

    private static void dueBack(LentCourage x, int image, int hour, String all) {
        check.due("back(" + image + ")", x.back(image), hour);
        check.due("all as in image " + image, Check.everything(x).equals(all) ? 1 : 0, 1);
    }
}
