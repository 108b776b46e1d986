/** Each sentence of the document that sets a bound to ACTS and oaths (Terms 2; promises 9 to 15), from both sides. */
public final class EdgesOfActsTest {
    private static final Due due = new Due("EdgesOfActsTest");
    private static final int MOST = Integer.MAX_VALUE, LEAST = Integer.MIN_VALUE;
    private static final String SORTS = "pmyfl";

    public static void main(String[] args) {
        daysOnTheWay();
        youngOnesFromDayTen();
        oldOnesAtOnce();
        heldForTheTerm();
        swornAnew();
        falseOnesNever();
        mixedNumberZero();
        mixedBehindAnother();
        mixedInARow();
        safeByOne();
        triedOnTheLastDay();
        waitedOneToSixty();
        askedUpToTheLastDay();
        waitedUpToTheLastDay();
        actsAreCounted();
        twentyFourActs();
        theOldestIsForgotten();
        undoneToTheFirst();
        noSuchThing();
        noSuchHarm();
        openToAHundredLater();
        due.end();
    }

    private static AllSworn on(int day, String text) {
        AllSworn x = Due.told(text);
        Due.days(x, day);
        return x;
    }

    /** "he is on the way for twice FAR DAYS, for a foreign, a false one four times FAR, 1 DAY at least". */
    private static void daysOnTheWay() {
        for (int s = 0; s < 5; s++) {
            for (int far = 0; far <= 9; far++) {
                int days = far == 0 ? 1 : s < 3 ? 2 * far : 4 * far;
                AllSworn x = on(10, "b9;" + SORTS.charAt(s) + far + ",0;");
                String thing = SORTS.charAt(s) + " at " + far;
                due.is(thing + " takes", x.thing(0, 4), days);
                due.is(thing + ", the DAY then", x.askFor(0), 10 + days);
                due.is(thing + ", the DAY that is counted", x.count(3), 10 + days);
                due.is(thing + " has SWORN on it", x.thing(0, 2), 10 + days);
                due.is(thing + " takes as long again", x.thing(0, 4), days);
            }
        }
    }

    /** "a young one does so only if that DAY is 10 or later (else the DAYS are gone, ..)". */
    private static void youngOnesFromDayTen() {
        for (int far = 0; far <= 9; far++) {
            int days = far == 0 ? 1 : 2 * far;
            for (int start = 0; start <= 12; start++) {
                AllSworn x = on(start, "b9;y" + far + ",0;h1;");
                int then = start + days;
                due.is("young, FAR " + far + " from " + start, x.askFor(0), then);
                due.is("it has SWORN on " + then, x.thing(0, 2), then >= 10 ? then : Due.NONE);
                due.is("it is BOUND on " + then, x.thing(0, 3), then >= 10 ? 1 : 0);
                due.is("the HARM is SAFE", x.harm(0, 1), then >= 10 ? 1 : 0);
                due.is("an ACT in any case", x.undo() + x.count(3), start == 0 ? 0 : 1 + start);
            }
        }
    }

    private static void oldOnesAtOnce() {
        for (char sort : "pmfl".toCharArray()) {
            AllSworn x = Due.told("b9;" + sort + "0,0;");
            x.askFor(0);
            due.is(sort + " swears on DAY 1", x.thing(0, 2), 1);
        }
    }

    /** "it holds on that DAY and TERM less 1 DAYS more". */
    private static void heldForTheTerm() {
        for (int term = 1; term <= 40; term++) {
            AllSworn x = Due.told("b" + term + ";p2,0;h1;");
            due.is("not ahead of it", x.thing(0, 3), 0);
            x.askFor(0);
            due.is("that DAY", x.thing(0, 3), 1);
            due.is("foretold: the last DAY", x.open(4 + term - 1), 0);
            due.is("foretold: the first behind it", x.open(4 + term), 1);
            Due.days(x, 4 + term - 1);
            due.is("the last DAY", x.thing(0, 3), 1);
            due.is("the HARM is SAFE", x.harm(0, 1), 1);
            x.waits(1);
            due.is("the first behind it", x.thing(0, 3), 0);
            due.is("the HARM is OPEN", x.harm(0, 1), 0);
            due.is("SWORN last", x.thing(0, 2), 4);
        }
    }

    /** "then it SWEARS (anew, if it had SWORN)". */
    private static void swornAnew() {
        AllSworn x = Due.told("b5;p0,0;h1;");
        x.askFor(0);
        x.askFor(0);
        due.is("the latest", x.thing(0, 2), 2);
        due.is("it holds longer", x.gap(), 7);
        x.waits(30);
        x.askFor(0);
        due.is("anew when it had lapsed", x.thing(0, 2), 33);
        due.is("BOUND anew", x.thing(0, 3), 1);
    }

    /** "A THING is BOUND on a DAY if its oath holds, and it is not false". */
    private static void falseOnesNever() {
        AllSworn x = Due.told("b40;l0,0;f0,0;h1;h2;");
        x.askFor(0);
        x.askFor(1);
        due.is("a false one has SWORN", x.thing(0, 2), 1);
        due.is("it is not BOUND", x.thing(0, 3), 0);
        due.is("a foreign one is", x.thing(1, 3), 1);
        due.is("OPEN", x.open(2), 1);
    }

    /** "a mixed one but 0 only if the THING of the number before is BOUND, too". */
    private static void mixedNumberZero() {
        AllSworn x = Due.told("b5;m0,0;m0,0;");
        x.askFor(0);
        due.is("0 asks for none", x.thing(0, 3), 1);
        due.is("1 has not SWORN", x.thing(1, 3), 0);
        x.askFor(1);
        due.is("1 behind 0", x.thing(1, 3), 1);
    }

    private static void mixedBehindAnother() {
        for (char sort : SORTS.toCharArray()) {
            AllSworn x = on(10, "b5;" + sort + "0,0;m0,0;p0,0;");
            x.askFor(1);
            x.askFor(2);
            due.is("behind " + sort + " that has not SWORN", x.thing(1, 3), 0);
            due.is("the one of the number behind is none", x.thing(2, 3), 1);
            x.askFor(0);
            int bound = sort == 'l' ? 0 : 1;
            due.is("behind " + sort + " that has", x.thing(1, 3), bound);
            x.waits(2);
            due.is("its own oath on its last DAY", x.thing(1, 3), bound);
            x.waits(1);
            due.is("its own oath lapsed", x.thing(1, 3), 0);
            x.askFor(1);
            due.is("the one before on its last DAY", x.thing(0, 3) + 2 * x.thing(1, 3), 3 * bound);
            x.waits(1);
            due.is("the one before lapsed", x.thing(1, 3), 0);
        }
    }

    private static void mixedInARow() {
        AllSworn x = Due.told("b40;p0,0;" + "m0,0;".repeat(7) + "h128;");
        for (int t = 7; t >= 1; t--) {
            x.askFor(t);
            due.is("without the first", x.thing(t, 3), 0);
        }
        due.is("OPEN", x.open(7), 1);
        x.askFor(0);
        for (int t = 0; t < 8; t++) {
            due.is(t + " with the first", x.thing(t, 3), 1);
        }
        due.is("SAFE", x.open(8), 0);
        due.is("up to the first that lapses", x.gap(), 41);
    }

    /** "A HARM is SAFE on a DAY if one of its THINGS is BOUND; else OPEN." */
    private static void safeByOne() {
        for (int t = 0; t < 8; t++) {
            AllSworn x = Due.told("b5;" + "p0,0;".repeat(8) + "h255;h" + (1 << t) + ";h" + (255 - (1 << t)) + ";");
            due.is("none is", x.open(0), 7);
            x.askFor(t);
            due.is("by " + t + " alone", x.open(1), 4);
            due.is("harm(0, 1)", x.harm(0, 1), 1);
            due.is("harm(1, 1)", x.harm(1, 1), 1);
            due.is("harm(2, 1)", x.harm(2, 1), 0);
        }
    }

    /** "A HARM is TRIED on the DAY: he is HIT, if it is OPEN." */
    private static void triedOnTheLastDay() {
        AllSworn x = Due.told("b3;p0,0;h1;");
        due.is("OPEN", x.tries(0), 1);
        x.askFor(0);
        due.is("SAFE", x.tries(0), 0);
        x.waits(2);
        due.is("SAFE on the last DAY", x.tries(0), 0);
        x.waits(1);
        due.is("OPEN behind it", x.tries(0), 1);
        due.is("OPEN again", x.tries(0), 1);
        due.is("HIT", x.count(4), 3);
        due.is("no DAY is gone by it", x.count(3), 4);
    }

    /** "n DAYS (1 to 60) are waited: the DAY. BAD; STATE: no REALM (ahead of BAD)". */
    private static void waitedOneToSixty() {
        AllSworn x = new AllSworn();
        for (int n : new int[] {LEAST, -1, 0, 1, 60, 61, MOST}) {
            due.is("no REALM, " + n, x.waits(n), Due.STATE);
        }
        for (int n : new int[] {1, 2, 59, 60}) {
            due.is("waits(" + n + ")", Due.told("b1;").waits(n), n);
        }
        AllSworn y = Due.told("b1;");
        for (int n : new int[] {LEAST, -60, -1, 0, 61, 62, 999, 1000, MOST}) {
            due.is("waits(" + n + ")", y.waits(n), Due.BAD);
        }
        due.is("no DAY is gone", y.count(3) + y.count(6), 0);
    }

    /** askFor: "FULL: it would be beyond DAY 999". */
    private static void askedUpToTheLastDay() {
        String[] things = {"p0", "p1", "m9", "y5", "f0", "f1", "f9", "l9"};
        int[] days = {1, 2, 18, 10, 1, 4, 36, 36};
        for (int k = 0; k < things.length; k++) {
            String text = "b9;" + things[k] + ",0;h1;";
            AllSworn x = on(999 - days[k], text);
            int acts = x.count(6);
            due.is(things[k] + " up to 999", x.askFor(0), 999);
            due.is("it has SWORN", x.thing(0, 2), 999);
            due.is("an ACT", x.count(6), acts + 1);
            AllSworn y = on(1000 - days[k], text);
            acts = y.count(6);
            due.is(things[k] + " beyond", y.askFor(0), Due.FULL);
            due.is("it has not SWORN", y.thing(0, 2), Due.NONE);
            due.is("no DAY is gone", y.count(3), 1000 - days[k]);
            due.is("no ACT", y.count(6), acts);
        }
        due.is("BAD ahead of FULL", on(999, "b9;p0,0;").askFor(1), Due.BAD);
    }

    /** waits: "FULL: beyond DAY 999". */
    private static void waitedUpToTheLastDay() {
        for (int n : new int[] {1, 2, 59, 60}) {
            AllSworn x = on(999 - n, "b9;");
            due.is(n + " up to 999", x.waits(n), 999);
            AllSworn y = on(1000 - n, "b9;");
            int acts = y.count(6);
            due.is(n + " beyond", y.waits(n), Due.FULL);
            due.is("no DAY is gone", y.count(3), 1000 - n);
            due.is("no ACT", y.count(6), acts);
        }
        AllSworn x = on(999, "b9;p0,0;h1;");
        for (int n : new int[] {LEAST, -1, 0, 61, MOST}) {
            due.is("BAD ahead of FULL", x.waits(n), Due.BAD);
        }
        due.is("a HARM is TRIED on DAY 999", x.tries(0), 1);
        due.is("that is undone", x.undo(), 17);
        due.is("DAY 999 is undone", x.undo(), 16);
        due.is("DAYS are left then", x.waits(39), 999);
    }

    /** "ACTS: a THING is ASKED; a HARM is TRIED; DAYS are waited." Nothing else is one, nor what is refused. */
    private static void actsAreCounted() {
        AllSworn x = Due.told("b9;p0,0;y0,0;h1;");
        x.askFor(0);
        due.is("ASKED", x.count(6), 1);
        x.askFor(1);
        due.is("ASKED in vain", x.count(6), 2);
        x.tries(0);
        due.is("TRIED and SAFE", x.count(6), 3);
        x.waits(20);
        due.is("waited", x.count(6), 4);
        x.tries(0);
        due.is("TRIED and OPEN", x.count(6), 5);
        x.askFor(2);
        x.tries(1);
        x.waits(0);
        x.row(0, 0, 3);
        x.feed('b');
        x.image(0);
        x.ask(0, 0);
        x.as(0, 0);
        x.gap();
        x.cover(0);
        x.round(-2);
        x.defended(23, 0);
        due.is("nothing else", x.count(6), 5);
        int[] days = {22, 2, 2, 1, 0};
        for (int k = 0; k < 5; k++) {
            due.is("undone", x.undo(), 4 - k);
            due.is("the DAY before", x.count(3), days[k]);
        }
        due.is("none is left", x.undo(), Due.STATE);
    }

    /** "24 at most are kept". */
    private static void twentyFourActs() {
        for (int acts : new int[] {23, 24, 25, 26, 48, 49, 100}) {
            AllSworn x = Due.told("b9;p0,0;h1;");
            for (int k = 0; k < acts; k++) {
                x.waits(1);
            }
            due.is(acts + " ACTS", x.count(6), Math.min(24, acts));
            for (int k = Math.min(24, acts) - 1; k >= 0; k--) {
                due.is("undone, left", x.undo(), k);
            }
            due.is("no more", x.undo(), Due.STATE);
            due.is("the DAY", x.count(3), Math.max(0, acts - 24));
            due.is("none is counted", x.count(6), 0);
        }
    }

    /** "of more the oldest is forgotten": also if it is of another sort than the others. */
    private static void theOldestIsForgotten() {
        AllSworn x = Due.told("b9;p0,0;p0,0;h2;h1;");
        x.tries(0);
        x.askFor(0);
        x.askFor(1);
        for (int k = 0; k < 22; k++) {
            x.tries(k % 2);
        }
        due.is("24 of 25", x.count(6), 24);
        for (int k = 0; k < 24; k++) {
            x.undo();
        }
        due.is("the HIT that is forgotten stays", x.count(4), 1);
        due.is("DAY 0", x.count(3), 0);
        due.is("not SWORN", x.thing(0, 2), Due.NONE);
        AllSworn y = Due.told("b9;p0,0;p0,0;h2;h1;");
        y.askFor(0);
        y.askFor(1);
        for (int k = 0; k < 23; k++) {
            y.tries(0);
        }
        for (int k = 0; k < 24; k++) {
            y.undo();
        }
        due.is("the oath that is forgotten stays", y.thing(0, 2), 1);
        due.is("the next is undone", y.thing(1, 2), Due.NONE);
        due.is("DAY 1", y.count(3), 1);
        due.is("new ACTS are kept", y.waits(3) + y.count(6), 5);
        due.is("and undone", y.undo() + y.count(3), 1);
    }

    /** "each can be undone, the latest first"; undo: "STATE: none". */
    private static void undoneToTheFirst() {
        AllSworn x = Due.told("b9;p1,0;f1,0;h1;h2;");
        due.is("none yet", x.undo(), Due.STATE);
        x.tries(1);
        x.askFor(0);
        x.tries(0);
        x.askFor(1);
        x.waits(60);
        x.askFor(0);
        int[][] then = {{66, 1, 2, 6}, {6, 1, 2, 6}, {2, 1, 2, Due.NONE}, {2, 1, 2, Due.NONE}, {0, 1, Due.NONE, Due.NONE},
            {0, 0, Due.NONE, Due.NONE}};
        for (int k = 0; k < then.length; k++) {
            due.is("left", x.undo(), 5 - k);
            due.is("the DAY", x.count(3), then[k][0]);
            due.is("HIT", x.count(4), then[k][1]);
            due.is("oath of 0", x.thing(0, 2), then[k][2]);
            due.is("oath of 1", x.thing(1, 2), then[k][3]);
        }
        due.is("none is left", x.undo(), Due.STATE);
        due.is("none is left, again", x.undo(), Due.STATE);
        due.is("without a REALM", new AllSworn().undo(), Due.STATE);
    }

    /** thing: "BAD"; "there is no such thing". */
    private static void noSuchThing() {
        for (int things = 0; things <= 8; things++) {
            AllSworn x = Due.told("b9;" + "f2,7;".repeat(things));
            for (int t : new int[] {LEAST, -1, 0, things - 1, things, 7, 8, MOST}) {
                boolean is = t >= 0 && t < things;
                int[] want = {2, 7, Due.NONE, 0, 8};
                for (int what = 0; what < 5; what++) {
                    due.is("thing(" + t + ", " + what + ") of " + things, x.thing(t, what), is ? want[what] : Due.BAD);
                }
                for (int what : new int[] {LEAST, -1, 5, MOST}) {
                    due.is("thing(" + t + ", " + what + ")", x.thing(t, what), Due.BAD);
                }
            }
            due.is("askFor the first behind", x.askFor(things), Due.BAD);
            due.is("askFor(-1)", x.askFor(-1), Due.BAD);
            due.is("askFor(LEAST)", x.askFor(LEAST), Due.BAD);
            due.is("askFor(MOST)", x.askFor(MOST), Due.BAD);
            due.is("askFor the last", x.askFor(things - 1), things == 0 ? Due.BAD : 8);
        }
    }

    /** harm, tries: "BAD". */
    private static void noSuchHarm() {
        for (int harms = 0; harms <= 8; harms++) {
            AllSworn x = Due.told("b9;p0,20;p0,0;p0,3;" + "h5;".repeat(harms));
            for (int h : new int[] {LEAST, -1, 0, harms - 1, harms, 7, 8, MOST}) {
                boolean is = h >= 0 && h < harms;
                int[] want = {5, 0, 23};
                for (int what = 0; what < 3; what++) {
                    due.is("harm(" + h + ", " + what + ") of " + harms, x.harm(h, what), is ? want[what] : Due.BAD);
                }
                for (int what : new int[] {LEAST, -1, 3, MOST}) {
                    due.is("harm(" + h + ", " + what + ")", x.harm(h, what), Due.BAD);
                }
                due.is("tries(" + h + ") of " + harms, x.tries(h), is ? 1 : Due.BAD);
            }
        }
        AllSworn y = Due.told("b9;" + "p0,20;".repeat(8) + "h255;h128;");
        due.is("the dearest", y.harm(0, 2), 160);
        due.is("the last THING alone", y.harm(1, 2), 20);
    }

    /** "HARMS that are OPEN on a DAY (this one to 100 later; bits) .. BAD; STATE: no REALM (ahead of BAD)". */
    private static void openToAHundredLater() {
        for (int day : new int[] {LEAST, -1, 0, 100, 101, MOST}) {
            due.is("no REALM", new AllSworn().open(day), Due.STATE);
        }
        for (int today : new int[] {0, 1, 500, 999}) {
            AllSworn x = on(today, "b9;" + "p0,0;".repeat(8) + "h1;".repeat(8));
            due.is("this one", x.open(today), 255);
            due.is("100 later", x.open(today + 100), 255);
            for (int day : new int[] {LEAST, today - 1, today - 100, today + 101, MOST - 100, MOST}) {
                due.is(day + " on " + today, x.open(day), Due.BAD);
            }
        }
        AllSworn y = on(998, "b40;p0,0;h1;");
        y.askFor(0);
        due.is("an oath holds beyond DAY 999", y.open(1038), 0);
        due.is("and lapses", y.open(1039), 1);
        due.is("no HARMS", Due.told("b9;p0,0;").open(0), 0);
    }
}
