/** Promises 18 to 21: hears, forget, lies, had. */
public final class HeardTest {
    private static final Check check = new Check("HeardTest");
    private static final String PORT = "o0;p0;p10;p20;d0 2 0 99 1;d1 12 0 99 1;d2 22 0 99 1;";

    public static void main(String[] args) {
        lies();
        hadByTwo();
        check.finish();
    }

    private static void lies() {
        LentCourage x = Check.port(PORT);
        check.due("lies of none", x.lies(), 0);
        x.hears(1, 50);
        check.due("lies of one", x.lies(), 0);
        x.hears(0, 40);
        check.due("just in time", x.lies(), 0);
        x.hears(2, 59);
        check.due("an hour too soon", x.lies(), 1);
        x.hears(2, 59);
        check.due("the same again", x.lies(), 1);
        x.hears(0, 59);
        check.due("in one hour, elsewhere", x.lies(), 2);
        x.hears(2, 70);
        check.due("behind the latest of that hour", x.lies(), 3);
        x.forget();
        x.hears(2, 10);
        x.hears(0, 10);
        check.due("the second of two", x.lies(), 1);
    }

    private static void hadByTwo() {
        LentCourage x = Check.port(PORT);
        x.hears(2, 40);
        x.hears(0, 5);
        check.due("not come to yet", x.had(12), 5);
        check.due("come to", x.had(13), 7);
        check.due("may be left still", x.had(28), 7);
        check.due("too late to be left", x.had(29), 5);
        x.hears(1, 20);
        check.due("the latest ahead counts", x.had(21), 6);
        check.due("the earliest behind counts", x.had(19), 3);
        check.due("as far as from 12 to 10", x.had(18), 3);
        check.due("only who did these", x.had(12), 3);
        check.due("the latest of all", x.had(99), 7);
    }
}
