/** Promises 6 to 8, and the bytes and texts of 31: feed, realm, fault, count. */
public final class TextsTest {
    private static final Due due = new Due("TextsTest");

    public static void main(String[] args) {
        feed();
        goodTexts();
        faults();
        tooManyFigures();
        roomForThings();
        roomForHarms();
        shorterTexts();
        faultKeepsAll();
        readStandsInPlace();
        due.end();
    }

    private static void feed() {
        AllSworn x = new AllSworn();
        due.is("feed(-1)", x.feed(-1), Due.BAD);
        due.is("feed(256)", x.feed(256), Due.BAD);
        due.is("feed(0)", x.feed(0), 1);
        due.is("feed(255)", x.feed(255), 2);
        for (int i = 3; i <= 120; i++) {
            due.is("feed(" + i + ")", x.feed(i), i);
        }
        due.is("feed beyond", x.feed(98), Due.FULL);
        due.is("feed BAD ahead of FULL", x.feed(256), Due.BAD);
        due.is("count(7)", x.count(7), 120);
        due.is("realm()", x.realm(), Due.FAULTS);
        due.is("count(7) then", x.count(7), 0);
        due.is("feed anew", x.feed(98), 1);
    }

    private static void goodTexts() {
        good("b1;", 1, 0, 0);
        good("b40;", 40, 0, 0);
        good("b007;p009,020;h001;", 7, 1, 1);
        good("b12;p2,5;m1,7;y0,3;f1,9;l2,2;p3,20;h3;h12;h20;h34;h40;", 12, 6, 5);
        good("b3;p0,0;p0,0;p0,0;p0,0;p0,0;p0,0;p0,0;p0,0;h255;h128;", 3, 8, 2);
        good("b3;l0,0;", 3, 1, 0);
        good("b3;p0,0;h1;h1;h1;h1;h1;h1;h1;h1;", 3, 1, 8);
    }

    private static void good(String text, int term, int things, int harms) {
        AllSworn x = new AllSworn();
        Due.feed(x, text);
        due.is(text, x.realm(), things);
        due.is(text + " TERM", x.count(5), term);
        due.is(text + " THINGS", x.count(1), things);
        due.is(text + " HARMS", x.count(2), harms);
        due.is(text + " tape", x.count(7), 0);
        due.is(text + " fault()", x.fault(), 0);
    }

    private static void faults() {
        wrong("", 0, 1);
        wrong("b", 1, 1);
        wrong("q1;", 0, 1);
        wrong("B1;", 0, 1);
        wrong("1;", 0, 1);
        wrong("b;", 1, 1);
        wrong("b,1;", 1, 1);
        wrong("b0;", 1, 2);
        wrong("b000;", 1, 2);
        wrong("b41;", 1, 2);
        wrong("b999", 1, 2);
        wrong("b1", 2, 1);
        wrong("b1,", 2, 1);
        wrong("b 1;", 1, 1);
        wrong("b1;;", 3, 1);
        wrong("b1; ", 3, 1);
        wrong("b1;b1;", 3, 1);
        wrong("b1;x1", 3, 1);
        wrong("b1;5", 3, 1);
        wrong("b1;\u00e9", 3, 1);
        wrong("b1;p", 4, 1);
        wrong("b1;p,0;", 4, 1);
        wrong("b1;pp0,0;", 4, 1);
        wrong("b1;p10,0;", 4, 2);
        wrong("b1;p0", 5, 1);
        wrong("b1;p0;", 5, 1);
        wrong("b1;p0,", 6, 1);
        wrong("b1;p0,;", 6, 1);
        wrong("b1;p0,21;", 6, 2);
        wrong("b1;p0,0", 7, 1);
        wrong("b1;p0,0,", 7, 1);
        wrong("b1;h1;", 4, 2);
        wrong("b1;h", 4, 1);
        wrong("b1;h;", 4, 1);
        wrong("b1;p0,0;h0;", 9, 2);
        wrong("b1;p0,0;h2;", 9, 2);
        wrong("b1;p0,0;p0,0;h4;", 14, 2);
        wrong("b1;p0,0;h1", 10, 1);
        wrong("b1;p0,0;h1,", 10, 1);
        wrong("b1;p0,0;h1;p0,0;", 11, 1);
        wrong("b1;p0,0;h1;h", 12, 1);
        wrong("b41#", 1, 2);
        wrong("b1;p10,21;h9", 4, 2);
    }

    /** Figures side by side are one NUMBER, and more than three of them are none: FAULT 1 at the first. */
    private static void tooManyFigures() {
        String things = "b12;p2,15;m9,020;";
        for (String figures : new String[] {"0001", "0000", "1000", "0012", "00001", "999999", "4294967297"}) {
            wrong("b" + figures, 1, 1);
            wrong("b" + figures + ";", 1, 1);
            wrong("b" + figures + "#", 1, 1);
            wrong("b12;p" + figures + ",5;", 5, 1);
            wrong("b12;p2," + figures + ";", 7, 1);
            wrong(things + "h" + figures + ";", 18, 1);
            wrong(things + "h3;h" + figures, 21, 1);
            wrong(figures + ";", 0, 1);
            wrong("b12;" + figures, 4, 1);
            wrong("b12" + figures + ";", 1, 1);
            wrong("b41;p" + figures + ",5;", 1, 2);
        }
        wrong("b" + "1".repeat(119), 1, 1);
        wrong("b" + "0".repeat(118) + "1", 1, 1);
        wrong("b12;p2,15;h" + "0".repeat(109), 11, 1);
        good("b012;p009,020;h001;", 12, 1, 1);
        wrong("b041;", 1, 2);
        wrong("b12;p010,0;", 5, 2);
        wrong("b12;p0,021;", 7, 2);
        wrong("b12;p0,0;h002;", 10, 2);
    }

    private static void wrong(String text, int place, int number) {
        AllSworn x = new AllSworn();
        Due.feed(x, text);
        due.is("'" + text + "'", x.realm(), Due.FAULTS - place);
        due.is("'" + text + "' fault()", x.fault(), number);
        due.is("'" + text + "' tape", x.count(7), 0);
        due.is("'" + text + "' REALM", x.gap(), Due.STATE);
    }

    private static void roomForThings() {
        StringBuilder eight = new StringBuilder("b1;");
        for (int i = 0; i < 8; i++) {
            eight.append("pmyfl".charAt(i % 5)).append("0,0;");
        }
        for (char sort : "pmyfl".toCharArray()) {
            wrong(eight + "" + sort + "0,0;", 43, 3);
            wrong(eight + "" + sort, 43, 3);
            wrong(eight + "h1;" + sort, 46, 1);
        }
        wrong(eight + "h256;", 44, 2);
        good(eight + "h255;", 1, 8, 1);
    }

    private static void roomForHarms() {
        StringBuilder eight = new StringBuilder("b1;p0,0;");
        for (int i = 0; i < 8; i++) {
            eight.append("h1;");
        }
        wrong(eight + "h1;", 32, 3);
        wrong(eight + "h", 32, 3);
        wrong(eight + "p", 32, 1);
        wrong(eight + ";", 32, 1);
    }

    /** Bytes of a longer text before are no part of a shorter one. */
    private static void shorterTexts() {
        AllSworn x = new AllSworn();
        String whole = "b12;p2,15;h1;";
        Due.feed(x, whole);
        x.realm();
        for (int n = 0; n < whole.length(); n++) {
            Due.feed(x, whole.substring(0, n));
            boolean good = n == 4 || n == 10;
            due.is(n + " bytes", x.realm(), good ? n / 10 : Due.FAULTS - n);
            Due.feed(x, whole);
            due.is("the whole", x.realm(), 1);
        }
    }

    private static void faultKeepsAll() {
        AllSworn x = Due.told("b5;p1,7;f2,3;h1;h3;");
        x.askFor(0);
        x.tries(0);
        x.waits(9);
        x.tries(1);
        Due.feed(x, "b40;p0,0;h1;#");
        due.is("FAULT", x.realm(), Due.FAULTS - 12);
        due.is("THINGS stay", x.count(1), 2);
        due.is("HARMS stay", x.count(2), 2);
        due.is("the DAY stays", x.count(3), 11);
        due.is("HITS stay", x.count(4), 1);
        due.is("TERM stays", x.count(5), 5);
        due.is("ACTS stay", x.count(6), 4);
        due.is("an oath stays", x.thing(0, 2), 2);
        due.is("a PRICE stays", x.thing(0, 1), 7);
        due.is("a SET stays", x.harm(1, 0), 3);
        due.is("undo()", x.undo(), 3);
        Due.feed(x, "b41;");
        x.realm();
        due.is("latest fault", x.fault(), 2);
        Due.feed(x, "b4;");
        due.is("realm()", x.realm(), 0);
        due.is("a FAULT before", x.fault(), 2);
    }

    private static void readStandsInPlace() {
        AllSworn x = Due.told("b5;p1,7;f2,3;h1;h3;");
        x.askFor(0);
        x.waits(20);
        x.tries(0);
        Due.feed(x, "b6;y3,4;");
        due.is("realm()", x.realm(), 1);
        int[] counts = {0, 1, 0, 0, 0, 6, 0, 0};
        for (int what = 0; what < 8; what++) {
            due.is("count(" + what + ")", x.count(what), counts[what]);
        }
        due.is("count(8)", x.count(8), Due.BAD);
        due.is("count(-1)", x.count(-1), Due.BAD);
        due.is("undo()", x.undo(), Due.STATE);
        due.is("thing(0, 2)", x.thing(0, 2), Due.NONE);
        due.is("thing(0, 0)", x.thing(0, 0), 3);
        due.is("thing(1, 0)", x.thing(1, 0), Due.BAD);
        due.is("harm(0, 0)", x.harm(0, 0), Due.BAD);
        due.is("kind(0)", x.kind(0), 3);
    }
}
