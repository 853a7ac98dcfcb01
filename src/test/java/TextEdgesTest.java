import java.util.function.IntUnaryOperator;

/**
 * Part 1 of the document and promises 1 to 4: a test for each sentence that names an edge.
 * In a faulty text the sign ^ (no part of the text) stands ahead of the byte where FAULT is due.
 */
public final class TextEdgesTest {
    private static final Check check = new Check("TextEdgesTest");
    private static final String SIX = "p0;p1;p2;p3;p4;p5;";
    private static final String EIGHT = "p1;" + "d0 1 2 3 4;".repeat(8);

    public static void main(String[] args) {
        bytesOfType();
        textIsFullAt180();
        clearOfNothingAndOfAll();
        placesAreUpTo30();
        officeAndFreeAtFirst();
        freeIsUpTo9();
        peopleAreSixAtMost();
        deedsAreEightAtMost();
        whoIsToldAhead();
        hoursAreUpTo99();
        tillIsNoLessThanFrom();
        worthIs1To20();
        officeAndFreeOnceAtMost();
        blanksBetweenTokens();
        lettersSideBySide();
        lettersThatBeginNoItem();
        numbersAbove99();
        numbersWithNoughtAhead();
        itemsOfTheWrongForm();
        textsThatEndTooEarly();
        eachByteWhereAnItemBegins();
        eachByteWhereANumberIsDue();
        eachByteWhereAnEndIsDue();
        theFirstFaultCounts();
        nothingToldAtAll();
        textIsEmptyBehindAGoodPort();
        textStaysBehindAFault();
        textTypedInParts();
        itemsInAnyOrder();
        check.finish();
    }

    private static LentCourage told(String text, int items) {
        LentCourage x = new LentCourage();
        check.due("port of '" + text + "'", Check.read(x, text), items);
        return x;
    }

    private static void fault(String marked) {
        int place = marked.indexOf('^');
        String text = marked.replace("^", "");
        LentCourage x = new LentCourage();
        check.due("port of '" + marked + "'", Check.read(x, text), -10 - place);
        check.due("bytes left of '" + marked + "'", x.count(6), text.length());
    }

    // type: "A byte (0 .. 255)"; "BAD"
    private static void bytesOfType() {
        LentCourage x = new LentCourage();
        check.due("type(-1)", x.type(-1), -1);
        check.due("type(256)", x.type(256), -1);
        check.due("nothing came to THE TEXT", x.count(6), 0);
        check.due("type(0)", x.type(0), 1);
        check.due("type(255)", x.type(255), 2);
        check.due("both came to THE TEXT", x.count(6), 2);
    }

    // "a text (180 bytes at most)"; type: "BAD; FULL"
    private static void textIsFullAt180() {
        LentCourage x = new LentCourage();
        for (int i = 1; i <= 177; i++) {
            check.due("blank " + i, x.type(' '), i);
        }
        check.due("byte 178", x.type('p'), 178);
        check.due("byte 179", x.type('9'), 179);
        check.due("byte 180", x.type(';'), 180);
        check.due("byte 181", x.type(';'), -3);
        check.due("byte 0 is none too many", x.type(0), -3);
        check.due("BAD is ahead of FULL: -1", x.type(-1), -1);
        check.due("BAD is ahead of FULL: 256", x.type(256), -1);
        check.due("still 180", x.count(6), 180);
        check.due("the 180 are read, not the one refused", x.port(), 1);
        check.due("the number of byte 179", x.one(0, 0), 9);
        check.due("room again", x.type('p'), 1);
    }

    // clear: "THE TEXT is empty: how many bytes it had"
    private static void clearOfNothingAndOfAll() {
        LentCourage x = new LentCourage();
        check.due("clear() of nothing", x.clear(), 0);
        Check.type(x, "p".repeat(180));
        check.due("clear() of 180", x.clear(), 180);
        check.due("clear() again", x.clear(), 0);
        check.due("nothing of it is read", Check.read(x, "p7;"), 1);
    }

    // "PLACES 0 .. 30"; "HOME (a PLACE)"; "OFFICE"; a DEED's "PLACE"
    private static void placesAreUpTo30() {
        check.due("HOME 0", told("p0;", 1).one(0, 0), 0);
        check.due("HOME 30", told("p30;", 1).one(0, 0), 30);
        fault("p^31;");
        check.due("OFFICE 0", told("o0;", 1).count(2), 0);
        check.due("OFFICE 30", told("o30;", 1).count(2), 30);
        fault("o^31;");
        check.due("PLACE 0", told("p1;d0 0 1 1 1;", 2).deed(0, 1), 0);
        check.due("PLACE 30", told("p1;d0 30 1 1 1;", 2).deed(0, 1), 30);
        fault("p1;d0 ^31 1 1 1;");
    }

    // "OFFICE (15 at first), FREE (0 .. 9 hours; 3 at first)"; "Read anew: as told"
    private static void officeAndFreeAtFirst() {
        LentCourage x = new LentCourage();
        check.due("OFFICE of a new object", x.count(2), 15);
        check.due("FREE of a new object", x.count(3), 3);
        Check.read(x, "o4;");
        check.due("OFFICE told", x.count(2), 4);
        check.due("FREE not told", x.count(3), 3);
        Check.read(x, "f7;");
        check.due("OFFICE not told again", x.count(2), 15);
        check.due("FREE told", x.count(3), 7);
        Check.read(x, "");
        check.due("OFFICE by an empty text", x.count(2), 15);
        check.due("FREE by an empty text", x.count(3), 3);
    }

    // "FREE (0 .. 9 hours"
    private static void freeIsUpTo9() {
        check.due("FREE 0", told("f0;", 1).count(3), 0);
        check.due("FREE 9", told("f9;", 1).count(3), 9);
        fault("f^10;");
    }

    // "PEOPLE 0 .. (6 at most)"; "a seventh of PEOPLE"
    private static void peopleAreSixAtMost() {
        LentCourage x = told(SIX, 6);
        check.due("six of PEOPLE", x.count(0), 6);
        for (int p = 0; p < 6; p++) {
            check.due("HOME of " + p, x.one(p, 0), p);
        }
        fault(SIX + "^p6;");
        fault(SIX + "o1; ^p6;");
        fault(SIX + "^p99;");
        fault(SIX + "^p");
    }

    // "DEEDS 0 .. (8 at most)"; "a ninth DEED"
    private static void deedsAreEightAtMost() {
        check.due("eight DEEDS", told(EIGHT, 9).count(1), 8);
        fault(EIGHT + "^d0 1 2 3 4;");
        fault(EIGHT + "p2; ^d1 1 2 3 4;");
        fault(EIGHT + "^d99;");
        fault(EIGHT + "^d");
    }

    // "WHO fears it (one of PEOPLE)"; "the next DEED, of one told ahead"
    private static void whoIsToldAhead() {
        fault("d^0 1 2 3 4;");
        fault("d^0 1 2 3 4;p1;");
        check.due("the only one", told("p1;d0 1 2 3 4;", 2).deed(0, 0), 0);
        fault("p1;d^1 1 2 3 4;");
        fault("p1;d^1 1 2 3 4;p1;");
        check.due("told just ahead", told("p1;p2;d1 1 2 3 4;", 3).deed(0, 0), 1);
        check.due("the last of six", told(SIX + "d5 1 2 3 4;", 7).deed(0, 0), 5);
        fault(SIX + "d^6 1 2 3 4;");
    }

    // "FROM and TILL (hours 0 .. 99"
    private static void hoursAreUpTo99() {
        LentCourage x = told("p1;d0 1 0 0 1;d0 1 99 99 1;d0 1 0 99 1;", 4);
        check.due("FROM 0", x.deed(0, 2), 0);
        check.due("TILL 0", x.deed(0, 3), 0);
        check.due("FROM 99", x.deed(1, 2), 99);
        check.due("TILL 99", x.deed(1, 3), 99);
        check.due("FROM 0 of the widest", x.deed(2, 2), 0);
        check.due("TILL 99 of the widest", x.deed(2, 3), 99);
        fault("p1;d0 1 ^100 100 1;");
        fault("p1;d0 1 0 ^100 1;");
        fault("p1;d0 1 99 ^100 1;");
    }

    // "TILL no less"; "T less than F"
    private static void tillIsNoLessThanFrom() {
        for (int from = 1; from <= 99; from++) {
            String start = "p1;d0 1 " + from + " ";
            check.due("TILL as FROM", told(start + from + " 1;", 2).deed(0, 3), from);
            fault(start + "^" + (from - 1) + " 1;");
        }
        fault("p1;d0 1 99 ^0 1;");
    }

    // "WORTH (1 .. 20)"
    private static void worthIs1To20() {
        check.due("WORTH 1", told("p1;d0 1 2 3 1;", 2).deed(0, 4), 1);
        check.due("WORTH 20", told("p1;d0 1 2 3 20;", 2).deed(0, 4), 20);
        fault("p1;d0 1 2 3 ^0;");
        fault("p1;d0 1 2 3 ^21;");
    }

    // "o X (OFFICE), f N (FREE; once at most each)"; "o, f again"
    private static void officeAndFreeOnceAtMost() {
        told("o1;f2;", 2);
        told("f2;p1;o1;", 3);
        fault("o1;^o1;");
        fault("o1;f1;p1;^o2;");
        fault("o15;^o15;");
        fault("f1;^f1;");
        fault("f3;o1;^f3;");
        fault("o1;^o99;");
        fault("f1;^f");
        LentCourage x = told("o1;f1;", 2);
        check.due("once in each text", Check.read(x, "f2;o2;"), 2);
        check.due("OFFICE as told last", x.count(2), 2);
        LentCourage y = new LentCourage();
        check.due("a faulty text that tells both", Check.read(y, "o1;f1;!"), -16);
        y.clear();
        check.due("does not count", Check.read(y, "o2;f2;"), 2);
    }

    // "blanks (32) between TOKENS"
    private static void blanksBetweenTokens() {
        told("p1;p2;d1 1 2 3 4;", 3);
        told("  p  1  ;  p  2  ;  d  1  1  2  3  4  ;  ", 3);
        told("p 1 ;d 0 1 2 3 4 ;", 2);
        check.due("one NUMBER", told("p12;", 1).one(0, 0), 12);
        fault("p1 ^2;");
        fault("p ^p1;");
        fault("p1^p2;");
        fault("p1;^\t");
        fault("p1;^\n");
        fault("p1;^\r");
        fault("p1;^" + (char) 160);
    }

    // "TOKENS are letters a .. z side by side"
    private static void lettersSideBySide() {
        fault("^pp1;");
        fault("^pa1;");
        fault("^pz1;");
        fault("^ap1;");
        fault("^zp1;");
        fault("^od1;");
        fault("p^`1;");
        fault("p^{1;");
        fault("p^P1;");
        fault("^Pp1;");
        fault("p ^ab;");
        fault("p1 ^ab;");
    }

    // "letters that begin no ITEM"
    private static void lettersThatBeginNoItem() {
        for (char c = 'a'; c <= 'z'; c++) {
            if ("pdof".indexOf(c) < 0) {
                fault("^" + c + "1;");
                fault("p1; ^" + c + ";");
            }
        }
        fault("^port;");
        fault("^deed 0 1 2 3 4;");
    }

    // "a NUMBER above 99": no wrap-around, wherever it stands
    private static void numbersAbove99() {
        fault("p^100;");
        fault("p1;d^100 1 2 3 4;");
        fault("p1;d0 ^100 2 3 4;");
        fault("p1;d0 1 2 3 ^100;");
        fault("o^999;");
        fault("f^256;");
        fault("p^4294967297;");
        fault("p^18446744073709551617;");
        fault("p^" + "9".repeat(179));
        fault("p^1" + "0".repeat(177) + ";");
        fault("^100;");
        fault("p1 ^100;");
    }

    // "with a 0 ahead of others"
    private static void numbersWithNoughtAhead() {
        told("p0;", 1);
        fault("p^00;");
        fault("p^01;");
        fault("p^030;");
        fault("o^05;");
        fault("f^09;");
        fault("f^" + "0".repeat(178) + ";");
        fault("p1;d^00 1 2 3 4;");
        fault("p1;d0 ^01 2 3 4;");
        fault("p1;d0 1 ^02 3 4;");
        fault("p1;d0 1 2 ^03 4;");
        fault("p1;d0 1 2 3 ^04;");
    }

    // "the first TOKEN that can't stand there"
    private static void itemsOfTheWrongForm() {
        fault("^;");
        fault("^5;");
        fault("p1;^;");
        fault("p1;^5;");
        String[] starts = {"p", "o", "f", "p1;d", "p1;d0 ", "p1;d0 1 ", "p1;d0 1 2 ", "p1;d0 1 2 3 "};
        for (String start : starts) {
            fault(start + "^;");
            fault(start + " ^x;");
            fault(start + "^-1;");
        }
        String[] wholes = {"p1 ", "o1 ", "f1 ", "p1;d0 1 2 3 4 "};
        for (String whole : wholes) {
            fault(whole + "^1;");
            fault(whole + "^p;");
            fault(whole + "^,;");
        }
    }

    // "the text's length, if it ends too early"
    private static void textsThatEndTooEarly() {
        String[] unended = {
            "p", "o", "f", "p1", "o1", "f1", "p1;d", "p1;d0", "p1;d0 1", "p1;d0 1 2",
            "p1;d0 1 2 3", "p1;d0 1 2 3 4"
        };
        for (String text : unended) {
            fault(text + "^");
            fault(text + "   ^");
            fault(text + " ".repeat(180 - text.length()) + "^");
        }
        fault("p1;" + " ".repeat(176) + "p^");
        fault("p1;" + " ".repeat(175) + "^pp");
    }

    private static void eachByte(String start, IntUnaryOperator due) {
        for (int c = 0; c < 256; c++) {
            LentCourage x = new LentCourage();
            Check.type(x, start);
            x.type(c);
            check.due("port of '" + start + "' and byte " + c, x.port(), due.applyAsInt(c));
        }
    }

    private static boolean isDigit(int c) {
        return c >= '0' && c <= '9';
    }

    // "of a byte that begins none": all bytes, where letters are due
    private static void eachByteWhereAnItemBegins() {
        eachByte("p1;", c -> c == ' ' ? 1 : "pdof".indexOf(c) >= 0 ? -14 : -13);
    }

    // .. where a NUMBER is due (a letter there would belong to the TOKEN ahead but for the blank)
    private static void eachByteWhereANumberIsDue() {
        eachByte("p ", c -> c == ' ' || isDigit(c) ? -13 : -12);
        eachByte("p", c -> c == ' ' || isDigit(c) ? -12 : c >= 'a' && c <= 'z' ? -10 : -11);
    }

    // .. where ; is due (a digit there makes the NUMBER 10 .. 19)
    private static void eachByteWhereAnEndIsDue() {
        eachByte("p1", c -> c == ';' ? 1 : c == ' ' || isDigit(c) ? -13 : -12);
        eachByte("p1 ", c -> c == ';' ? 1 : c == ' ' ? -14 : -13);
    }

    // "FAULT: the place of the first byte of the first TOKEN"
    private static void theFirstFaultCounts() {
        fault("p^31;!");
        fault("^!p31;");
        fault("p1;d^1 31 5 4 0");
        fault("p1;d0 ^31 5 4 0");
        fault("p1;d0 30 5 ^4 0");
        fault("p1;d0 30 5 5 ^0");
        fault("p1;d0 30 5 5 1^");
        fault("p1 ^q100");
    }

    // "PEOPLE 0 ..", "DEEDS 0 ..": none of them
    private static void nothingToldAtAll() {
        for (String text : new String[] {"", " ", " ".repeat(180)}) {
            LentCourage x = Check.port("o1;f1;p1;d0 1 2 3 4;");
            check.due("port of blanks", Check.read(x, text), 0);
            check.due("no PEOPLE", x.count(0), 0);
            check.due("no DEEDS", x.count(1), 0);
        }
        check.due("PEOPLE without DEEDS", told("p1;", 1).count(1), 0);
    }

    // port: "THE TEXT tells all, and is empty then"
    private static void textIsEmptyBehindAGoodPort() {
        LentCourage x = told("p1;p2;d1 1 2 3 4;", 3);
        check.due("no bytes left", x.count(6), 0);
        check.due("clear() of nothing", x.clear(), 0);
        check.due("port() of nothing", x.port(), 0);
        check.due("tells of nobody", x.count(0), 0);
    }

    // port: "-10 less FAULT: nothing changes"
    private static void textStaysBehindAFault() {
        LentCourage x = new LentCourage();
        check.due("ended too early", Check.read(x, "p5"), -12);
        check.due("the same again", x.port(), -12);
        check.due("it goes on", x.type(';'), 3);
        check.due("now it is told", x.port(), 1);
        check.due("HOME", x.one(0, 0), 5);
        check.due("faulty", Check.read(x, "o1;f1;p1;p2;p31;"), -10 - 13);
        check.due("OFFICE", x.count(2), 15);
        check.due("FREE", x.count(3), 3);
        check.due("PEOPLE", x.count(0), 1);
        check.due("HOME still", x.one(0, 0), 5);
        check.due("all of its bytes", x.clear(), 16);
    }

    // port: "THE TEXT tells all": nothing is told till then, and no other call comes to THE TEXT
    private static void textTypedInParts() {
        LentCourage x = Check.port("o5;p5;d0 5 0 9 4;");
        Check.type(x, "o7;p");
        check.due("OFFICE is as told ahead", x.count(2), 5);
        check.due("lends(0)", x.lends(0), 0);
        check.due("does(0)", x.does(0), 4);
        x.type(-1);
        x.type(256);
        Check.type(x, "2");
        x.hears(0, 3);
        x.keep(0);
        x.undo();
        x.back(0);
        x.mark(1, 0);
        Check.type(x, "9;");
        check.due("all of its bytes", x.count(6), 7);
        check.due("HOME is as told ahead", x.one(0, 0), 5);
        check.due("port()", x.port(), 2);
        check.due("OFFICE", x.count(2), 7);
        check.due("HOME", x.one(0, 0), 29);
        check.due("no DEEDS any more", x.count(1), 0);
    }

    // "p H (the next of PEOPLE) ; d W X F T V (the next DEED ..": numbered as they are told
    private static void itemsInAnyOrder() {
        LentCourage x = told("p3;d0 1 2 3 4;f5;p6;d1 7 8 9 10;o11;d0 12 13 14 15;p16;", 8);
        int[] homes = {3, 6, 16};
        for (int p = 0; p < homes.length; p++) {
            check.due("HOME of " + p, x.one(p, 0), homes[p]);
            check.due("at HOME is " + p, x.one(p, 1), homes[p]);
        }
        int[][] deeds = {{0, 1, 2, 3, 4, 0}, {1, 7, 8, 9, 10, 0}, {0, 12, 13, 14, 15, 0}};
        for (int d = 0; d < deeds.length; d++) {
            for (int what = 0; what < 6; what++) {
                check.due("deed(" + d + ", " + what + ")", x.deed(d, what), deeds[d][what]);
            }
        }
        check.due("OFFICE", x.count(2), 11);
        check.due("FREE", x.count(3), 5);
    }
}
