/** Promises 9 to 15: askFor, tries, waits, undo, thing, harm, open. */
public final class ActsTest {
    private static final Due due = new Due("ActsTest");

    public static void main(String[] args) {
        daysToAsk();
        youngOnes();
        oathsLapse();
        mixedOnes();
        falseOnes();
        tries();
        waits();
        lastDay();
        undo();
        actsForgotten();
        openAhead();
        wrongNumbers();
        due.end();
    }

    private static void daysToAsk() {
        AllSworn x = Due.told("b9;p0,0;p1,0;p9,0;m3,0;y5,0;f0,0;f1,0;f9,0;");
        int[] days = {1, 2, 18, 6, 10, 1, 4, 36};
        int day = 0;
        for (int t = 0; t < 8; t++) {
            day += days[t];
            due.is("thing(" + t + ", 4)", x.thing(t, 4), days[t]);
            due.is("askFor(" + t + ")", x.askFor(t), day);
            due.is("thing(" + t + ", 2)", x.thing(t, 2), day);
            due.is("count(3)", x.count(3), day);
        }
        AllSworn y = Due.told("b9;l0,0;l2,0;");
        due.is("a false one near", y.askFor(0), 1);
        due.is("a false one far", y.askFor(1), 9);
    }

    private static void youngOnes() {
        AllSworn x = Due.told("b40;y0,0;h1;");
        for (int day = 1; day <= 9; day++) {
            due.is("asked too early", x.askFor(0), day);
            due.is("it has not sworn", x.thing(0, 2), Due.NONE);
        }
        due.is("on DAY 10", x.askFor(0), 10);
        due.is("it has sworn", x.thing(0, 2), 10);
        due.is("it is bound", x.thing(0, 3), 1);
    }

    private static void oathsLapse() {
        for (int term : new int[] {1, 2, 7, 40}) {
            AllSworn x = Due.told("b" + term + ";p1,5;f0,5;h1;h2;h3;");
            x.askFor(0);
            int sworn = x.count(3);
            for (int later = 0; later < term; later++) {
                due.is("TERM " + term + ", " + later + " later", x.thing(0, 3), 1);
                due.is("harm(0, 1)", x.harm(0, 1), 1);
                due.is("harm(1, 1)", x.harm(1, 1), 0);
                due.is("harm(2, 1)", x.harm(2, 1), 1);
                x.waits(1);
            }
            due.is("TERM " + term + " is over", x.thing(0, 3), 0);
            due.is("harm(0, 1) then", x.harm(0, 1), 0);
            due.is("it had sworn", x.thing(0, 2), sworn);
            x.askFor(0);
            due.is("sworn anew", x.thing(0, 2), sworn + term + 2);
            due.is("bound anew", x.thing(0, 3), 1);
        }
    }

    private static void mixedOnes() {
        AllSworn x = Due.told("b5;m0,0;p0,0;m0,0;m0,0;h1;h4;h8;h14;");
        x.askFor(0);
        due.is("mixed 0 asks for none", x.thing(0, 3), 1);
        x.askFor(3);
        due.is("3 without 2", x.thing(3, 3), 0);
        x.askFor(2);
        due.is("2 without 1", x.thing(2, 3), 0);
        due.is("3 with 2 that is not bound", x.thing(3, 3), 0);
        due.is("open", x.open(3), 14);
        x.askFor(1);
        due.is("2 with 1", x.thing(2, 3), 1);
        due.is("3 with 2", x.thing(3, 3), 1);
        due.is("open then", x.open(4), 0);
        due.is("when 0 lapses", x.open(6), 1);
        due.is("when 3 lapses", x.open(7), 1 + 4);
        due.is("when 2 lapses", x.open(8), 1 + 2 + 4);
        due.is("when 1 lapses", x.open(9), 15);
        AllSworn y = Due.told("b5;p0,0;m0,0;h2;");
        y.askFor(0);
        y.waits(2);
        y.askFor(1);
        due.is("while 0 holds", y.open(5), 0);
        due.is("when 0 lapses 1 is not bound", y.open(6), 1);
    }

    private static void falseOnes() {
        AllSworn x = Due.told("b20;l0,3;m0,0;h1;h2;");
        x.askFor(0);
        x.askFor(1);
        due.is("a false one swears", x.thing(0, 2), 1);
        due.is("and is not bound", x.thing(0, 3), 0);
        due.is("nor is a mixed one behind it", x.thing(1, 3), 0);
        due.is("open", x.open(2), 3);
    }

    private static void tries() {
        AllSworn x = Due.told("b3;p0,1;p0,2;h1;h2;h3;");
        x.askFor(0);
        due.is("tries(0)", x.tries(0), 0);
        due.is("tries(1)", x.tries(1), 1);
        due.is("tries(2)", x.tries(2), 0);
        due.is("tries(1) again", x.tries(1), 1);
        due.is("hits", x.count(4), 2);
        due.is("the DAY", x.count(3), 1);
        due.is("acts", x.count(6), 5);
        due.is("tries(3)", x.tries(3), Due.BAD);
        due.is("tries(-1)", x.tries(-1), Due.BAD);
        due.is("BAD is no act", x.count(6), 5);
        due.is("undo()", x.undo(), 4);
        due.is("hits then", x.count(4), 1);
        x.undo();
        due.is("undone without a hit", x.count(4), 1);
    }

    private static void waits() {
        AllSworn x = new AllSworn();
        due.is("waits(0) without a REALM", x.waits(0), Due.STATE);
        due.is("waits(1) without a REALM", x.waits(1), Due.STATE);
        x = Due.told("b1;");
        due.is("waits(0)", x.waits(0), Due.BAD);
        due.is("waits(-1)", x.waits(-1), Due.BAD);
        due.is("waits(61)", x.waits(61), Due.BAD);
        due.is("waits(1)", x.waits(1), 1);
        due.is("waits(60)", x.waits(60), 61);
        due.is("acts", x.count(6), 2);
    }

    private static void lastDay() {
        AllSworn x = Due.told("b1;p1,0;f1,0;p0,0;h1;");
        Due.days(x, 995);
        due.is("askFor up to 999", x.askFor(1), 999);
        due.is("askFor beyond", x.askFor(2), Due.FULL);
        due.is("waits beyond", x.waits(1), Due.FULL);
        due.is("waits BAD ahead of FULL", x.waits(61), Due.BAD);
        due.is("askFor BAD ahead of FULL", x.askFor(3), Due.BAD);
        due.is("FULL changes nothing", x.count(3), 999);
        x.undo();
        due.is("waits up to 998", x.waits(3), 998);
        due.is("askFor beyond from 998", x.askFor(0), Due.FULL);
        due.is("not sworn", x.thing(0, 2), Due.NONE);
        due.is("askFor(2)", x.askFor(2), 999);
        due.is("a HARM is still TRIED", x.tries(0), 1);
        due.is("open beyond 999", x.open(1099), 1);
    }

    private static void undo() {
        AllSworn x = Due.told("b9;p1,0;y0,0;h1;");
        due.is("undo() of none", x.undo(), Due.STATE);
        x.askFor(0);
        x.askFor(1);
        x.waits(10);
        x.askFor(0);
        x.askFor(1);
        due.is("acts", x.count(6), 5);
        due.is("undo() of an oath", x.undo(), 4);
        due.is("none was sworn", x.thing(1, 2), Due.NONE);
        due.is("DAY 15", x.count(3), 15);
        due.is("undo() of an oath anew", x.undo(), 3);
        due.is("the oath before", x.thing(0, 2), 2);
        due.is("DAY 13", x.count(3), 13);
        due.is("undo() of waiting", x.undo(), 2);
        due.is("DAY 3", x.count(3), 3);
        due.is("undo() of asking in vain", x.undo(), 1);
        due.is("DAY 2", x.count(3), 2);
        due.is("undo() of the first", x.undo(), 0);
        due.is("DAY 0", x.count(3), 0);
        due.is("nothing sworn", x.thing(0, 2), Due.NONE);
        due.is("undo() of none then", x.undo(), Due.STATE);
        due.is("acts then", x.count(6), 0);
    }

    private static void actsForgotten() {
        AllSworn x = Due.told("b40;p0,0;h1;");
        for (int i = 1; i <= 30; i++) {
            x.askFor(0);
            due.is("acts kept", x.count(6), Math.min(24, i));
        }
        for (int i = 1; i <= 24; i++) {
            due.is("undo()", x.undo(), 24 - i);
            due.is("the oath", x.thing(0, 2), 30 - i);
            due.is("the DAY", x.count(3), 30 - i);
        }
        due.is("the older are forgotten", x.undo(), Due.STATE);
        due.is("DAY 6 stays", x.count(3), 6);
    }

    private static void openAhead() {
        AllSworn x = new AllSworn();
        due.is("open(-1) without a REALM", x.open(-1), Due.STATE);
        x = Due.told("b30;p0,0;p0,0;h1;h2;h3;");
        x.askFor(0);
        x.waits(4);
        due.is("a DAY that is gone", x.open(4), Due.BAD);
        due.is("this DAY", x.open(5), 2);
        due.is("the last that holds", x.open(30), 2);
        due.is("the first behind it", x.open(31), 7);
        due.is("100 later", x.open(105), 7);
        due.is("101 later", x.open(106), Due.BAD);
        due.is("far away", x.open(Integer.MAX_VALUE), Due.BAD);
        due.is("far back", x.open(Integer.MIN_VALUE), Due.BAD);
        due.is("nothing changes", x.count(3), 5);
    }

    private static void wrongNumbers() {
        AllSworn x = Due.told("b30;p4,20;f2,3;h3;h2;");
        due.is("thing(0, 0)", x.thing(0, 0), 4);
        due.is("thing(0, 1)", x.thing(0, 1), 20);
        due.is("thing(1, 4)", x.thing(1, 4), 8);
        due.is("harm(0, 0)", x.harm(0, 0), 3);
        due.is("harm(0, 2)", x.harm(0, 2), 23);
        due.is("harm(1, 2)", x.harm(1, 2), 3);
        for (int wrong : new int[] {-1, 2, 8, Integer.MAX_VALUE, Integer.MIN_VALUE}) {
            due.is("askFor(" + wrong + ")", x.askFor(wrong), Due.BAD);
            due.is("thing(" + wrong + ", 0)", x.thing(wrong, 0), Due.BAD);
            due.is("harm(" + wrong + ", 0)", x.harm(wrong, 0), Due.BAD);
        }
        due.is("thing(0, 5)", x.thing(0, 5), Due.BAD);
        due.is("thing(0, -1)", x.thing(0, -1), Due.BAD);
        due.is("harm(0, 3)", x.harm(0, 3), Due.BAD);
        due.is("harm(0, -1)", x.harm(0, -1), Due.BAD);
    }
}
