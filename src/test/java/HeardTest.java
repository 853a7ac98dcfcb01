/** Promises 18 to 21: hears, forget, lies, had. */
public final class HeardTest {
    private static final Check check = new Check("HeardTest");
    private static final String PORT = "o0;p0;p10;p20;d0 2 0 99 1;d1 12 0 99 1;d2 22 0 99 1;";

    public static void main(String[] args) {
        hears();
        forget();
        lies();
        hadByOne();
        hadByTwo();
        hadInOneHour();
        check.finish();
    }

    private static void hears() {
        LentCourage x = Check.port(PORT);
        check.due("hears(-1, 0)", x.hears(-1, 0), -1);
        check.due("hears(3, 0)", x.hears(3, 0), -1);
        check.due("hears(0, -1)", x.hears(0, -1), -1);
        check.due("hears(0, 100)", x.hears(0, 100), -1);
        for (int i = 1; i <= 6; i++) {
            check.due("hears as " + i, x.hears(i % 3, i % 2 == 0 ? 0 : 99), i);
        }
        check.due("hears a seventh", x.hears(0, 5), -3);
        check.due("BAD ahead of FULL", x.hears(3, 5), -1);
        check.due("count(4)", x.count(4), 6);
        check.due("nothing is DONE", x.now(4), 0);
        check.due("nobody has DEEDS", new LentCourage().hears(0, 0), -1);
    }

    private static void forget() {
        LentCourage x = Check.port(PORT);
        x.hears(0, 1);
        x.hears(1, 1);
        check.due("forget()", x.forget(), 2);
        check.due("lies() of none", x.lies(), 0);
        check.due("had of none", x.had(1), 7);
        check.due("forget() again", x.forget(), 0);
        check.due("hears anew", x.hears(2, 2), 1);
    }

    private static void lies() {
        LentCourage x = Check.port(PORT);
        check.due("lies of none", x.lies(), 0);
        x.hears(1, 50);
        check.due("lies of one", x.lies(), 0);
        x.hears(0, 40);
        check.due("just in time", x.lies(), 0);
        x.hears(2, 59);
        check.due("an hour too soon", x.lies(), 1);
        x.hears(2, 59);
        check.due("the same again", x.lies(), 1);
        x.hears(0, 59);
        check.due("in one hour, elsewhere", x.lies(), 2);
        x.hears(2, 70);
        check.due("behind the latest of that hour", x.lies(), 3);
        x.forget();
        x.hears(2, 10);
        x.hears(0, 10);
        check.due("the second of two", x.lies(), 1);
    }

    private static void hadByOne() {
        LentCourage x = Check.port(PORT);
        check.due("had(-1)", x.had(-1), -1);
        check.due("had(100)", x.had(100), -1);
        check.due("nothing HEARD", x.had(99), 7);
        check.due("nothing HEARD, nobody", new LentCourage().had(0), 0);
        x.hears(2, 30);
        check.due("in that hour", x.had(30), 4);
        check.due("who did it, home or not", x.had(31), 4);
        check.due("an hour too soon", x.had(41), 4);
        check.due("at home in time", x.had(42), 6);
        check.due("another too soon", x.had(51), 6);
        check.due("everybody", x.had(52), 7);
        check.due("ahead: an hour too late", x.had(19), 4);
        check.due("ahead: in time", x.had(18), 6);
        check.due("ahead: another too late", x.had(9), 6);
        check.due("ahead: everybody", x.had(8), 7);
    }

    private static void hadByTwo() {
        LentCourage x = Check.port(PORT);
        x.hears(2, 40);
        x.hears(0, 5);
        check.due("not come to yet", x.had(12), 5);
        check.due("come to", x.had(13), 7);
        check.due("may be left still", x.had(28), 7);
        check.due("too late to be left", x.had(29), 5);
        x.hears(1, 20);
        check.due("the latest ahead counts", x.had(21), 6);
        check.due("the earliest behind counts", x.had(19), 3);
        check.due("as far as from 12 to 10", x.had(18), 3);
        check.due("only who did these", x.had(12), 3);
        check.due("the latest of all", x.had(99), 7);
    }

    private static void hadInOneHour() {
        LentCourage x = Check.port(PORT);
        x.hears(1, 20);
        x.hears(0, 20);
        check.due("both in that hour", x.had(20), 3);
        check.due("behind: the last HEARD", x.had(21), 1);
        check.due("ahead: the first HEARD", x.had(19), 2);
        x.hears(2, 20);
        check.due("first and last, not those between", x.had(20), 6);
        check.due("behind: the very last", x.had(21), 4);
    }
}
