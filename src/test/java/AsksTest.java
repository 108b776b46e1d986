/** Promises 27 to 30: kind, as, ask, trace. */
public final class AsksTest {
    private static final Due due = new Due("AsksTest");
    // THINGS 0 to 4 are of KINDS 1 to 5; how many HARMS they are in: 1, 2, 3, 1, 1.
    private static final String TEXT = "b12;p2,5;m1,7;y0,3;f1,9;l2,2;h3;h6;h28;h4;";

    public static void main(String[] args) {
        kinds();
        asks();
        traceIsKept();
        wrongNumbers();
        due.end();
    }

    private static void kinds() {
        AllSworn x = Due.told(TEXT);
        boolean[][] is = {
            {true, true, false, false, false, false},
            {true, true, true, false, false, false},
            {true, true, false, true, false, false},
            {true, false, false, false, true, false},
            {true, false, false, false, true, true}};
        for (int t = 0; t < 5; t++) {
            due.is("kind(" + t + ")", x.kind(t), t + 1);
            for (int k = 0; k <= 5; k++) {
                due.is("as(" + t + ", " + k + ")", x.as(t, k), is[t][k] ? t : Due.KIND);
                due.is("status()", x.status(), is[t][k] ? 0 : 3);
            }
            due.is("as(" + t + ", 6)", x.as(t, 6), Due.BAD);
            due.is("as(" + t + ", -1)", x.as(t, -1), Due.BAD);
        }
    }

    private static void asks() {
        AllSworn x = Due.told(TEXT);
        asked(x, 0, 0, 5 + 0 + 1, 11, 10, 21, 20);
        asked(x, 0, 1, 0 + 1, 21, 20);
        asked(x, 1, 0, -(7 + 2 * (1 + 2)), 12, 11, 10, 24, 21, 20);
        asked(x, 1, 1, 2 * (1 + 2), 24, 21, 20);
        asked(x, 2, 0, 3 + 2 + 3 - 1000, 11, 10, 22, 21, 20);
        asked(x, 2, 1, 2 + 3 - 1000, 22, 21, 20);
        asked(x, 3, 0, 9 - 100, 13, 10);
        asked(x, 3, 1, 3 - (9 - 100), 23, 20, 13, 10);
        asked(x, 4, 0, 2 * (2 - 100), 14, 13, 10);
        asked(x, 4, 1, 4 - 2 * (2 - 100), 23, 20, 14, 13, 10);
    }

    private static void asked(AllSworn x, int thing, int what, int answer, int... trace) {
        String ask = "ask(" + thing + ", " + what + ")";
        due.is(ask, x.ask(thing, what), answer);
        for (int i = 0; i < trace.length; i++) {
            due.is(ask + " trace(" + i + ")", x.trace(i), trace[i]);
        }
        due.is(ask + " trace(" + trace.length + ")", x.trace(trace.length), Due.NONE);
        due.is(ask + " trace(15)", x.trace(15), Due.NONE);
    }

    private static void traceIsKept() {
        AllSworn x = Due.told(TEXT);
        x.ask(3, 0);
        x.askFor(0);
        due.is("ask(5, 0)", x.ask(5, 0), Due.BAD);
        due.is("ask(0, 2)", x.ask(0, 2), Due.BAD);
        due.is("what is refused leaves it", x.trace(0), 13);
        Due.feed(x, "b1;");
        x.realm();
        due.is("another REALM leaves it", x.trace(1), 10);
        for (int wrong : new int[] {-1, 2, 16, 17, Integer.MAX_VALUE, Integer.MIN_VALUE}) {
            due.is("trace(" + wrong + ")", x.trace(wrong), Due.NONE);
        }
    }

    private static void wrongNumbers() {
        AllSworn none = new AllSworn();
        due.is("kind(0) without a REALM", none.kind(0), Due.BAD);
        due.is("as(0, 0) without a REALM", none.as(0, 0), Due.BAD);
        due.is("ask(0, 0) without a REALM", none.ask(0, 0), Due.BAD);
        AllSworn x = Due.told(TEXT);
        for (int wrong : new int[] {-1, 5, 8, Integer.MAX_VALUE, Integer.MIN_VALUE}) {
            due.is("kind(" + wrong + ")", x.kind(wrong), Due.BAD);
            due.is("as(" + wrong + ", 0)", x.as(wrong, 0), Due.BAD);
            due.is("ask(" + wrong + ", 0)", x.ask(wrong, 0), Due.BAD);
            due.is("ask(0, " + wrong + ")", x.ask(0, wrong), Due.BAD);
        }
    }
}
