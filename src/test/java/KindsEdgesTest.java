/** Part 4 of the document and promises 22 to 26: a test for each sentence that names an edge. */
public final class KindsEdgesTest {
    private static final Check check = new Check("KindsEdgesTest");

    public static void main(String[] args) {
        numbersOfMark();
        marksOfNobody();
        marksOfEachKind();
        marksBelowNought();
        traceOfEachBody();
        traceOfRefusedMarks();
        traceIsKept();
        numbersOfKeepAndBack();
        imagesOfNobody();
        noImageKept();
        imageKeptOver();
        imageKeepsAllOfNow();
        imageKeepsWhatMayBeUndone();
        imageStaysAsKept();
        imageKeepsNothingElse();
        readAnew();
        faultLeavesImages();
        numbersOfCount();
        use512Times();
        check.finish();
    }

    /** At hour 8 the second one HOLDS it since hour 5; the first one OWES 5 and has been without it for 3. */
    private static LentCourage lentPort() {
        LentCourage x = Check.port("o4;f0;p4;p9;d0 4 0 0 7;");
        x.lends(0);
        x.does(0);
        x.walks(9);
        x.lends(1);
        x.keeps(3);
        return x;
    }

    // "KINDS .. 0 ONE; .. 5 CLERK"; mark: "NO: BAD"
    private static void numbersOfMark() {
        LentCourage x = lentPort();
        check.due("mark(-1, 0)", x.mark(-1, 0), -1000000);
        check.due("mark(0, 0)", x.mark(0, 0), 3);
        check.due("mark(5, 0)", x.mark(5, 0), 11);
        check.due("mark(6, 0)", x.mark(6, 0), -1000000);
        check.due("mark(0, -1)", x.mark(0, -1), -1000000);
        check.due("mark(0, 1)", x.mark(0, 1), 0);
        check.due("mark(0, 2)", x.mark(0, 2), -1000000);
        check.due("mark(6, 2)", x.mark(6, 2), -1000000);
        LentCourage six = Check.port("p0;p0;p0;p0;p0;p0;");
        check.due("mark(4, 5)", six.mark(4, 5), 5);
        check.due("mark(4, 6)", six.mark(4, 6), -1000000);
    }

    private static void marksOfNobody() {
        for (int kind = 0; kind < 6; kind++) {
            check.due("nobody: mark(" + kind + ", 0)", new LentCourage().mark(kind, 0), -1000000);
        }
    }

    // "ONE his CARE .. FRIEND up, and what he OWES .. CLERK up, and the HOUR"
    private static void marksOfEachKind() {
        int[] first = {3, 3 + 5, 3 - 9, (3 + 5) * 2, 3 - 9, 3 + 8};
        int[] second = {0, 0, -9, 0, -9 + 1, 8};
        LentCourage x = lentPort();
        for (int kind = 0; kind < 6; kind++) {
            check.due("mark(" + kind + ", 0)", x.mark(kind, 0), first[kind]);
            check.due("mark(" + kind + ", 1)", x.mark(kind, 1), second[kind]);
        }
    }

    // "What none is, where a number may be below 0": BAD and NONE are good marks
    private static void marksBelowNought() {
        LentCourage x = Check.port("p1;p2;p9;p10;p30;");
        check.due("-1 is a mark", x.mark(2, 0), -1);
        check.due("-2 is a mark", x.mark(2, 1), -2);
        check.due("-9 is a mark", x.mark(2, 2), -9);
        check.due("the least mark", x.mark(2, 4), -30);
    }

    // "numbers in brackets come to THE TRACE as often as mark() asks that body"
    private static void traceOfEachBody() {
        long[] traces = {1, 11, 101, 1011, 10101, 100001};
        check.due("at first", new LentCourage().trace(), 0);
        long all = 0;
        LentCourage x = lentPort();
        for (int kind = 0; kind < 6; kind++) {
            LentCourage y = lentPort();
            y.mark(kind, 1);
            check.due("trace() of mark(" + kind + ", 1)", y.trace(), traces[kind]);
            x.mark(kind, 0);
            all += traces[kind];
            check.due("trace() of all up to " + kind, x.trace(), all);
        }
    }

    private static void traceOfRefusedMarks() {
        LentCourage x = lentPort();
        x.mark(-1, 0);
        x.mark(6, 0);
        x.mark(5, -1);
        x.mark(5, 2);
        check.due("refused", x.trace(), 0);
    }

    // Nothing takes THE TRACE back, and nothing but mark() comes to it.
    private static void traceIsKept() {
        LentCourage x = lentPort();
        x.keep(0);
        x.mark(3, 0);
        x.undo();
        x.back(0);
        x.clear();
        x.forget();
        check.due("behind undo and back", x.trace(), 1011);
        Check.read(x, "p1;");
        check.due("behind a port read anew", x.trace(), 1011);
        x.one(0, 3);
        x.trace();
        check.due("CARE asked of one()", x.trace(), 1011);
    }

    // "IMAGES 0, 1"; keep, back: "BAD"
    private static void numbersOfKeepAndBack() {
        LentCourage x = lentPort();
        check.due("keep(-1)", x.keep(-1), -1);
        check.due("keep(2)", x.keep(2), -1);
        check.due("BAD is ahead of STATE: back(-1)", x.back(-1), -1);
        check.due("BAD is ahead of STATE: back(2)", x.back(2), -1);
        check.due("keep(0)", x.keep(0), 8);
        check.due("keep(1)", x.keep(1), 8);
        check.due("back(-1)", x.back(-1), -1);
        check.due("back(2)", x.back(2), -1);
    }

    private static void imagesOfNobody() {
        LentCourage x = new LentCourage();
        check.due("keep(1) of nobody", x.keep(1), 0);
        check.due("back(1) of nobody", x.back(1), 0);
        check.due("nothing to be UNDONE", x.undo(), -2);
    }

    // back: "STATE: none was kept"
    private static void noImageKept() {
        LentCourage x = lentPort();
        check.due("back(0) of none", x.back(0), -2);
        check.due("back(1) of none", x.back(1), -2);
        x.keep(1);
        check.due("back(0), only 1 was kept", x.back(0), -2);
        check.due("back(1)", x.back(1), 8);
        LentCourage y = lentPort();
        y.keep(0);
        check.due("back(1), only 0 was kept", y.back(1), -2);
        check.due("back(0)", y.back(0), 8);
    }

    private static void imageKeptOver() {
        LentCourage x = lentPort();
        x.keep(0);
        x.keeps(1);
        x.keep(1);
        x.keeps(1);
        check.due("keep(0) over it", x.keep(0), 10);
        check.due("the other one stays", x.back(1), 9);
        check.due("as kept last", x.back(0), 10);
    }

    // "keep NOW (the HOUR, who HOLDS it since when, FRESH or not, where all are, who HELD it last when, .."
    private static void imageKeepsAllOfNow() {
        LentCourage x = lentPort();
        String kept = Check.everything(x);
        x.keep(0);
        x.walks(4);
        x.brings();
        x.lends(1);
        x.walks(9);
        x.lends(0);
        check.due("it is another NOW", Check.everything(x).equals(kept) ? 1 : 0, 0);
        check.due("back(0)", x.back(0), 8);
        int[] now = {8, 1, 1, 3, 1, 7, 5};
        for (int what = 0; what < 7; what++) {
            check.due("now(" + what + ")", x.now(what), now[what]);
        }
        check.due("where he is", x.one(0, 1), 9);
        check.due("what he OWES", x.one(0, 2), 5);
        check.due("CARE", x.one(0, 3), 3);
        check.due("DONE", x.deed(0, 5), 1);
        check.due("all of it", Check.everything(x).equals(kept) ? 1 : 0, 1);
    }

    // ".. what may be UNDONE)"
    private static void imageKeepsWhatMayBeUndone() {
        LentCourage x = lentPort();
        x.keep(0);
        for (int i = 0; i < 12; i++) {
            x.keeps(1);
        }
        x.keep(1);
        x.back(0);
        check.due("five of image 0", x.count(5), 5);
        for (int left = 4; left >= 0; left--) {
            check.due("undo() of image 0", x.undo(), left);
        }
        check.due("the very first NOW", x.now(1), -9);
        check.due("no more", x.undo(), -2);
        x.back(1);
        check.due("ten of image 1", x.count(5), 10);
        for (int left = 9; left >= 0; left--) {
            check.due("undo() of image 1", x.undo(), left);
            check.due("the HOUR", x.now(0), 10 + left);
        }
        check.due("older ones are lost", x.undo(), -2);
    }

    private static void imageStaysAsKept() {
        LentCourage x = lentPort();
        x.keep(0);
        for (int turn = 0; turn < 3; turn++) {
            check.due("back(0)", x.back(0), 8);
            check.due("five steps", x.count(5), 5);
            x.undo();
            check.due("the HOUR ahead of it", x.now(0), 5);
            x.undo();
            x.keeps(7);
            x.keeps(7);
        }
        check.due("back is no step", x.count(5), 5);
    }

    // "nothing else"
    private static void imageKeepsNothingElse() {
        LentCourage x = lentPort();
        x.hears(0, 5);
        Check.type(x, "p1;p2");
        x.mark(0, 0);
        x.keep(0);
        x.hears(0, 6);
        x.hears(0, 7);
        Check.type(x, ";p3;");
        x.mark(0, 0);
        x.back(0);
        check.due("HEARD", x.count(4), 3);
        check.due("THE TRACE", x.trace(), 2);
        check.due("bytes of THE TEXT", x.count(6), 9);
        check.due("THE TEXT", x.port(), 3);
    }

    // "(Read anew: as told, nothing HEARD or to be UNDONE, IMAGES are gone.)"
    private static void readAnew() {
        LentCourage x = lentPort();
        x.hears(0, 5);
        x.keep(0);
        x.keep(1);
        Check.read(x, "o4;f0;p4;p9;d0 4 0 0 7;");
        check.due("HEARD", x.count(4), 0);
        check.due("to be UNDONE", x.count(5), 0);
        check.due("undo()", x.undo(), -2);
        check.due("back(0)", x.back(0), -2);
        check.due("back(1)", x.back(1), -2);
        int[] now = {0, -9, 0, 0, 0, 0, 0};
        for (int what = 0; what < 7; what++) {
            check.due("now(" + what + ")", x.now(what), now[what]);
        }
        check.due("at HOME", x.one(0, 1), 4);
        check.due("OWES nothing", x.one(0, 2), 0);
        check.due("not DONE", x.deed(0, 5), 0);
        x.lends(0);
        check.due("CARE of the other at first", x.one(1, 3), 0);
    }

    private static void faultLeavesImages() {
        LentCourage x = lentPort();
        x.hears(0, 5);
        x.keep(0);
        check.due("a faulty text", Check.read(x, "p1;p"), -14);
        check.due("HEARD", x.count(4), 1);
        check.due("to be UNDONE", x.count(5), 5);
        check.due("back(0)", x.back(0), 8);
        check.due("the HOUR", x.now(0), 8);
    }

    // count: "0 PEOPLE .. 6 bytes of THE TEXT. BAD"
    private static void numbersOfCount() {
        for (LentCourage x : new LentCourage[] {new LentCourage(), lentPort()}) {
            check.due("count(-1)", x.count(-1), -1);
            check.due("count(7)", x.count(7), -1);
        }
        LentCourage full = Check.port("o30;f9;p0;p0;p0;p0;p0;p30;" + "d5 30 0 9 1;".repeat(8));
        full.lends(5);
        for (int i = 0; i < 12; i++) {
            full.keeps(1);
            full.hears(7, 99);
        }
        Check.type(full, " ".repeat(181));
        int[] most = {6, 8, 30, 9, 6, 10, 180};
        for (int what = 0; what < 7; what++) {
            check.due("at most count(" + what + ")", full.count(what), most[what]);
        }
    }

    // "used for at most 512 calls after it has been made": the last of these is as good as the first
    private static void use512Times() {
        LentCourage x = Check.port("o0;p0;p0;d0 0 0 9 1;d1 0 0 9 2;");
        int calls = "o0;p0;p0;d0 0 0 9 1;d1 0 0 9 2;".length() + 1;
        for (; calls < 510; calls++) {
            x.mark(5, 1);
        }
        check.due("call 511", x.trace(), 478L * 100001);
        check.due("call 512", x.round(-1), 3);
    }
}
