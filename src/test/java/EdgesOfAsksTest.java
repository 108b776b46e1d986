/** Each sentence of the document that sets a bound to IMAGES, KINDS, ASKS, counts (promises 25 to 31), from both sides. */
public final class EdgesOfAsksTest {
    private static final Due due = new Due("EdgesOfAsksTest");
    private static final int MOST = Integer.MAX_VALUE, LEAST = Integer.MIN_VALUE;
    private static final String SORTS = "pmyfl";

    public static void main(String[] args) {
        twoImages();
        noneWasKept();
        imageKeepsActs();
        restoredWithoutActs();
        restoredInPlaceOfAnother();
        restoredOnTheLastDay();
        restoredAmongOthers();
        kindsOneToFive();
        takenAs();
        asksNoneAndOne();
        smallestAndGreatest();
        traceOfNoneToSixteen();
        traceIsEmptyAhead();
        countsOfEight();
        countsAtTheirGreatest();
        fiveHundredAndTwelveCalls();
        due.end();
    }

    /** "An IMAGE (0, 1) is kept of the REALM: 1. BAD; STATE: no REALM." */
    private static void twoImages() {
        AllSworn none = new AllSworn();
        AllSworn told = Due.told("b1;");
        for (int k : new int[] {LEAST, -1, 2, 3, MOST}) {
            due.is("BAD ahead of STATE, image(" + k + ")", none.image(k), Due.BAD);
            due.is("BAD ahead of STATE, restore(" + k + ")", none.restore(k), Due.BAD);
            due.is("image(" + k + ")", told.image(k), Due.BAD);
            due.is("restore(" + k + ")", told.restore(k), Due.BAD);
        }
        for (int k = 0; k <= 1; k++) {
            due.is("no REALM, image(" + k + ")", none.image(k), Due.STATE);
            due.is("image(" + k + ")", told.image(k), 1);
        }
        AllSworn fault = new AllSworn();
        Due.feed(fault, "b41;");
        fault.realm();
        due.is("no REALM behind a FAULT", fault.image(0), Due.STATE);
    }

    /** "STATE: none was kept." */
    private static void noneWasKept() {
        for (int k = 0; k <= 1; k++) {
            AllSworn x = Due.told("b7;");
            due.is("restore(" + k + ")", x.restore(k), Due.STATE);
            due.is("image(" + k + ")", x.image(k), 1);
            due.is("restore of the other", x.restore(1 - k), Due.STATE);
            due.is("restore(" + k + ") then", x.restore(k), 1);
            due.is("and again", x.restore(k), 1);
            AllSworn y = new AllSworn();
            due.is("a refused image", y.image(k), Due.STATE);
            due.is("keeps none", y.restore(k), Due.STATE);
        }
    }

    private static void imageKeepsActs() {
        AllSworn x = Due.told("b9;p0,0;h1;");
        for (int k = 0; k < 30; k++) {
            x.askFor(0);
        }
        due.is("image(0)", x.image(0), 1);
        due.is("24 can be undone yet", x.count(6), 24);
        due.is("undo()", x.undo(), 23);
        due.is("the oath before", x.thing(0, 2), 29);
    }

    /** "The REALM is as an IMAGE kept it (no ACT can be undone then): 1." */
    private static void restoredWithoutActs() {
        AllSworn x = Due.told("b9;p0,0;p1,0;h1;h2;");
        x.tries(0);
        x.askFor(0);
        x.image(1);
        due.is("restore(1) at once", x.restore(1), 1);
        due.is("no ACTS", x.count(6), 0);
        due.is("undo()", x.undo(), Due.STATE);
        due.is("the DAY", x.count(3), 1);
        due.is("HIT", x.count(4), 1);
        due.is("the oath", x.thing(0, 2), 1);
        x.askFor(1);
        x.tries(0);
        due.is("ACTS anew", x.count(6), 2);
        due.is("undo()", x.undo(), 1);
        due.is("undo()", x.undo(), 0);
        due.is("undo() of no more", x.undo(), Due.STATE);
        due.is("the DAY then", x.count(3), 1);
    }

    private static void restoredInPlaceOfAnother() {
        String[] texts = {"b1;", "b9;y1,1;", "b12;l3,1;m1,7;y0,3;f1,9;h3;h12;",
            "b40;" + "m1,2;".repeat(8) + "h255;h1;h2;h4;h8;h16;h32;h64;"};
        for (String kept : texts) {
            for (String other : texts) {
                Run plain = new Run().told(kept).then("askFor", 0).then("waits", 11).then("tries", 0).then("askFor", 1)
                    .then("image", 0).then("restore", 0);
                Run lived = new Run().told(kept).then("askFor", 0).then("waits", 11).then("tries", 0).then("askFor", 1)
                    .then("image", 0).told(other).then("askFor", 1).then("tries", 0).then("askFor", 7).then("waits", 3)
                    .then("restore", 0);
                due.holds("'" + kept + "' in place of '" + other + "'", Looks.at(lived).equals(Looks.at(plain)));
            }
        }
    }

    private static void restoredOnTheLastDay() {
        AllSworn x = Due.told("b40;p0,0;h1;");
        x.image(0);
        Due.days(x, 998);
        x.askFor(0);
        x.image(1);
        due.is("restore(0)", x.restore(0), 1);
        due.is("DAY 0", x.count(3), 0);
        due.is("DAYS are left", x.waits(60), 60);
        due.is("restore(1)", x.restore(1), 1);
        due.is("DAY 999", x.count(3), 999);
        due.is("none are left", x.waits(1), Due.FULL);
        due.is("the oath", x.gap(), 1039);
    }

    /** An IMAGE is of the REALM alone: ROWS, the tape, THE TRACE, the latest FAULT and FINDING are no part of it. */
    private static void restoredAmongOthers() {
        AllSworn x = Due.told("b9;p1,5;h1;");
        x.image(0);
        x.row(3, 1, 4);
        x.set(3, 4, 0);
        Due.feed(x, "b9;q");
        x.realm();
        Due.feed(x, "b7");
        x.ask(0, 1);
        due.is("restore(0)", x.restore(0), 1);
        due.is("ROWS", x.count(0), 1);
        due.is("the tape", x.count(7), 2);
        due.is("THE TRACE", x.trace(0) * 100 + x.trace(1), 2120);
        due.is("fault()", x.fault(), 1);
        due.is("status()", x.status(), 2);
    }

    /** "The KIND of a THING, as told (1 to 5). BAD." */
    private static void kindsOneToFive() {
        for (int things = 0; things <= 8; things++) {
            StringBuilder text = new StringBuilder("b9;");
            for (int t = 0; t < things; t++) {
                text.append(SORTS.charAt(t % 5)).append("0,0;");
            }
            AllSworn x = Due.told(text.toString());
            for (int t : new int[] {LEAST, -1, 0, things - 1, things, 4, 7, 8, MOST}) {
                boolean is = t >= 0 && t < things;
                due.is("kind(" + t + ") of " + things, x.kind(t), is ? t % 5 + 1 : Due.BAD);
                due.is("as(" + t + ", 0)", x.as(t, 0), is ? t : Due.BAD);
                due.is("ask(" + t + ", 0)", x.ask(t, 0) == Due.BAD ? Due.BAD : 1, is ? 1 : Due.BAD);
            }
        }
    }

    /** "A THING is taken as one of a KIND (0 .. 5): its number. BAD; KIND: it is no such one." */
    private static void takenAs() {
        AllSworn x = Due.told("b9;l0,0;f0,0;y0,0;m0,0;p0,0;");
        String[] as = {"100011", "100010", "110100", "111000", "110000"};
        for (int t = 0; t < 5; t++) {
            for (int kind = 0; kind <= 5; kind++) {
                due.is("as(" + t + ", " + kind + ")", x.as(t, kind), as[t].charAt(kind) == '1' ? t : Due.KIND);
            }
            for (int kind : new int[] {LEAST, -1, 6, MOST}) {
                due.is("as(" + t + ", " + kind + ")", x.as(t, kind), Due.BAD);
            }
        }
        due.is("BAD ahead of KIND", x.as(5, 2), Due.BAD);
        due.is("the last number", Due.told("b9;" + "y0,0;".repeat(8)).as(7, 3), 7);
    }

    /** "An ASK (0, 1) of a THING. BAD." */
    private static void asksNoneAndOne() {
        AllSworn x = Due.told("b9;p0,4;h1;");
        due.is("SIZE", x.ask(0, 0), 4 + 1);
        due.is("MARK", x.ask(0, 1), 1);
        for (int what : new int[] {LEAST, -1, 2, MOST}) {
            due.is("ask(0, " + what + ")", x.ask(0, what), Due.BAD);
        }
        due.is("what is refused leaves THE TRACE", x.trace(0), 21);
        due.is("as long as it was", x.trace(2), Due.NONE);
    }

    /** PRICE 0 and 20, number 0 and 7, in none and in 8 HARMS. */
    private static void smallestAndGreatest() {
        int[] leastSizes = {0, 0, -1000, -100, -200};
        int[] leastMarks = {0, 0, -1000, 100, 200};
        int[] mostSizes = {35, -50, -965, -80, -160};
        int[] mostMarks = {15, 30, -985, 87, 167};
        for (int s = 0; s < 5; s++) {
            AllSworn x = Due.told("b9;" + SORTS.charAt(s) + "0,0;");
            due.is(SORTS.charAt(s) + " SIZE at least", x.ask(0, 0), leastSizes[s]);
            due.is(SORTS.charAt(s) + " MARK at least", x.ask(0, 1), leastMarks[s]);
            AllSworn y = Due.told("b9;" + "p0,0;".repeat(7) + SORTS.charAt(s) + "9,20;" + "h128;".repeat(8));
            due.is(SORTS.charAt(s) + " SIZE at most", y.ask(7, 0), mostSizes[s]);
            due.is(SORTS.charAt(s) + " MARK at most", y.ask(7, 1), mostMarks[s]);
        }
        AllSworn z = Due.told("b9;p0,0;p0,0;h2;h2;h3;");
        due.is("in one of three", z.ask(0, 1), 1);
        due.is("in all three", z.ask(1, 1), 4);
    }

    /** "THE TRACE .. (the first 16)"; trace: "Number i of THE TRACE; NONE." */
    private static void traceOfNoneToSixteen() {
        AllSworn x = Due.told("b9;m0,0;l0,0;");
        for (int i : new int[] {LEAST, -1, 0, 1, 15, 16, MOST}) {
            due.is("none yet, trace(" + i + ")", x.trace(i), Due.NONE);
        }
        x.ask(0, 0);
        int[] longest = {12, 11, 10, 24, 21, 20};
        for (int i = 0; i < 20; i++) {
            due.is("trace(" + i + ")", x.trace(i), i < 6 ? longest[i] : Due.NONE);
        }
        for (int i : new int[] {LEAST, -1, MOST}) {
            due.is("trace(" + i + ")", x.trace(i), Due.NONE);
        }
    }

    /** "THE TRACE is empty ahead of it." */
    private static void traceIsEmptyAhead() {
        AllSworn x = Due.told("b9;m0,0;p0,0;");
        x.ask(0, 0);
        x.ask(1, 1);
        int[] trace = {21, 20, Due.NONE, Due.NONE, Due.NONE, Due.NONE};
        for (int i = 0; i < 6; i++) {
            due.is("trace(" + i + ")", x.trace(i), trace[i]);
        }
        for (int k = 0; k < 20; k++) {
            x.ask(0, 0);
        }
        due.is("the last of them alone", x.trace(0), 12);
        due.is("its end", x.trace(6), Due.NONE);
    }

    /** "How many: 0 ROWS, .. 7 bytes on the tape. BAD." */
    private static void countsOfEight() {
        AllSworn x = Due.told("b12;p2,5;m1,7;y0,3;h3;h4;");
        x.row(0, 0, 0);
        x.tries(1);
        x.askFor(0);
        x.waits(5);
        x.tries(1);
        Due.feed(x, "b7;pq");
        int[] counts = {1, 3, 2, 9, 2, 12, 4, 5};
        for (int what = 0; what < 8; what++) {
            due.is("count(" + what + ")", x.count(what), counts[what]);
        }
        for (int what : new int[] {LEAST, -1, 8, 9, MOST}) {
            due.is("count(" + what + ")", x.count(what), Due.BAD);
        }
    }

    private static void countsAtTheirGreatest() {
        AllSworn x = Due.told("b40;" + "p0,0;".repeat(8) + "h1;".repeat(8));
        for (int row = 0; row < 8; row++) {
            x.row(row, 0, 0);
        }
        Due.days(x, 999);
        for (int k = 0; k < 40; k++) {
            x.tries(7);
        }
        Due.feed(x, "b".repeat(120));
        int[] counts = {8, 8, 8, 999, 40, 40, 24, 120};
        for (int what = 0; what < 8; what++) {
            due.is("greatest count(" + what + ")", x.count(what), counts[what]);
        }
    }

    /** "An object is used for at most 512 calls after it has been made": up to the last of them all holds. */
    private static void fiveHundredAndTwelveCalls() {
        String text = "b9;p0,3;h1;";
        AllSworn x = new AllSworn();
        int calls = 0;
        for (; calls < 492; calls += text.length() + 1) {
            Due.feed(x, text);
            due.is("realm()", x.realm(), 1);
        }
        due.is("calls so far", calls, 492);
        for (; calls < 511; calls++) {
            due.is("askFor(0)", x.askFor(0), calls - 491);
        }
        due.is("the last call", x.ask(0, 0), 4);
    }
}
