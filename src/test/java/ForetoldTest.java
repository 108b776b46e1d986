/** Promises 16 to 24: gap, cover, round, cheapest, defended, enough, odds, hitBy, terms. */
public final class ForetoldTest {
    private static final Due due = new Due("ForetoldTest");

    public static void main(String[] args) {
        withoutRealm();
        withoutHarms();
        gap();
        cover();
        coverOfYoungAndMixed();
        round();
        roundOfYoung();
        roundTies();
        roundAtMostFour();
        cheapest();
        defended();
        defendedLater();
        enough();
        odds();
        hitBy();
        hitByRefusals();
        terms();
        nearTheLastDay();
        due.end();
    }

    private static void withoutRealm() {
        AllSworn x = new AllSworn();
        x.row(0, 0, 3);
        due.is("gap()", x.gap(), Due.STATE);
        due.is("terms()", x.terms(), Due.STATE);
        for (int what : new int[] {-9, 0, 9}) {
            due.is("cover", x.cover(what), Due.STATE);
            due.is("round", x.round(what), Due.STATE);
            due.is("cheapest", x.cheapest(what, what), Due.STATE);
            due.is("defended", x.defended(what, what), Due.STATE);
            due.is("enough", x.enough(what), Due.STATE);
            due.is("hitBy", x.hitBy(what, what, what), Due.STATE);
            due.is("odds", x.odds(0, what, 0), Due.BAD);
        }
    }

    private static void withoutHarms() {
        AllSworn x = Due.told("b5;");
        x.row(0, 0, 2);
        due.is("gap()", x.gap(), Due.NONE);
        due.is("cover(0)", x.cover(0), 0);
        due.is("cover(1)", x.cover(1), 0);
        due.is("round(-2)", x.round(-2), 0);
        due.is("round(-1)", x.round(-1), 0);
        due.is("round(0)", x.round(0), Due.NONE);
        due.is("cheapest(0, 0)", x.cheapest(0, 0), Due.NONE);
        due.is("cheapest(0, 1)", x.cheapest(0, 1), Due.NONE);
        due.is("defended(0, 0)", x.defended(0, 0), Due.NONE);
        due.is("defended(0, 1)", x.defended(0, 1), Due.NONE);
        due.is("enough(0)", x.enough(0), 0);
        due.is("enough(1)", x.enough(1), 0);
        due.is("hitBy(0, 0, 2)", x.hitBy(0, 0, 2), 0);
        due.is("terms()", x.terms(), 1);
    }

    private static void gap() {
        AllSworn x = Due.told("b7;p0,0;p1,0;h1;h2;");
        due.is("at first", x.gap(), 0);
        x.askFor(0);
        due.is("one is open", x.gap(), 1);
        x.askFor(1);
        due.is("DAY 3, until 0 lapses", x.gap(), 8);
        x.waits(4);
        due.is("DAY 7", x.gap(), 8);
        x.waits(1);
        due.is("DAY 8", x.gap(), 8);
        due.is("nothing changes", x.count(3), 8);
        AllSworn y = Due.told("b40;p0,0;");
        due.is("nothing to be open", y.gap(), Due.NONE);
    }

    private static void cover() {
        AllSworn x = Due.told("b9;p0,1;p0,1;p0,1;p0,1;h3;h6;h12;");
        due.is("how many", x.cover(0), 2);
        due.is("which, the least", x.cover(1), 5);
        due.is("cover(2)", x.cover(2), Due.BAD);
        due.is("cover(-1)", x.cover(-1), Due.BAD);
        x.askFor(3);
        due.is("beside what holds", x.cover(0), 1);
        due.is("which", x.cover(1), 2);
        x.askFor(1);
        due.is("all is safe", x.cover(0), 0);
        due.is("by none", x.cover(1), 0);
        AllSworn y = Due.told("b9;l0,1;p0,1;h1;h2;");
        due.is("a false one helps nobody", y.cover(0), Due.NONE);
        due.is("which", y.cover(1), Due.NONE);
    }

    private static void coverOfYoungAndMixed() {
        AllSworn x = Due.told("b9;y0,1;m0,1;h2;");
        Due.days(x, 9);
        due.is("DAY 9", x.cover(0), Due.NONE);
        x.waits(1);
        due.is("DAY 10, how many", x.cover(0), 2);
        due.is("DAY 10, which", x.cover(1), 3);
        x.askFor(0);
        due.is("the one before holds", x.cover(1), 2);
    }

    private static void round() {
        AllSworn x = Due.told("b4;p2,0;p1,0;f1,0;h3;h6;");
        due.is("DAYS", x.round(-2), 2);
        due.is("how many", x.round(-1), 1);
        due.is("first", x.round(0), 1);
        due.is("second", x.round(1), Due.NONE);
        due.is("fourth", x.round(3), Due.NONE);
        due.is("round(4)", x.round(4), Due.BAD);
        due.is("round(-3)", x.round(-3), Due.BAD);
        due.is("nothing changes", x.count(3) + x.count(6), 0);
        AllSworn y = Due.told("b4;p2,0;f1,0;p1,0;h1;h4;");
        due.is("4 and 2 DAYS", y.round(-2), 6);
        due.is("two", y.round(-1), 2);
        due.is("both ways do, first by numbers", y.round(0), 0);
        due.is("then", y.round(1), 2);
        AllSworn z = Due.told("b3;p2,0;f1,0;p1,0;h1;h4;");
        due.is("TERM 3, the far one first, then 2", z.round(0), 0);
        AllSworn w = Due.told("b2;p2,0;p1,0;h1;h2;");
        due.is("by a short TERM not at all", w.round(-2), Due.NONE);
        due.is("how many then", w.round(-1), Due.NONE);
        due.is("which then", w.round(0), Due.NONE);
        AllSworn v = Due.told("b3;p1,0;p2,0;h1;h2;");
        due.is("the near one last", v.round(-2), 6);
        due.is("first", v.round(0), 1);
        due.is("second", v.round(1), 0);
    }

    private static void roundOfYoung() {
        AllSworn x = Due.told("b20;y0,0;p4,0;p1,0;f3,0;h1;");
        due.is("DAYS gone with others", x.round(-2), 11);
        due.is("how many", x.round(-1), 3);
        due.is("first", x.round(0), 1);
        due.is("second", x.round(1), 2);
        due.is("third", x.round(2), 0);
        x.waits(9);
        due.is("DAY 9", x.round(-2), 1);
        due.is("alone", x.round(-1), 1);
    }

    private static void roundTies() {
        AllSworn x = Due.told("b20;p0,0;p0,0;p1,0;h5;h6;");
        due.is("2 DAYS either way", x.round(-2), 2);
        due.is("fewest THINGS", x.round(-1), 1);
        due.is("which", x.round(0), 2);
        AllSworn y = Due.told("b20;p0,0;p0,0;p0,0;p0,0;h3;h12;");
        due.is("first by numbers", y.round(0), 0);
        due.is("then", y.round(1), 2);
        x.askFor(2);
        due.is("all is safe, DAYS", x.round(-2), 0);
        due.is("how many", x.round(-1), 0);
        due.is("none", x.round(0), Due.NONE);
    }

    private static void roundAtMostFour() {
        AllSworn x = Due.told("b20;p0,0;p0,0;p0,0;p0,0;p0,0;h1;h2;h4;h8;");
        due.is("four", x.round(-2), 4);
        due.is("the last", x.round(3), 3);
        AllSworn y = Due.told("b20;p0,0;p0,0;p0,0;p0,0;p0,0;h1;h2;h4;h8;h16;");
        due.is("five are too many", y.round(-2), Due.NONE);
        y.askFor(4);
        due.is("one holds already", y.round(-2), 4);
        AllSworn z = Due.told("b20;y0,0;h1;");
        due.is("none is ASKED twice", z.round(-2), Due.NONE);
    }

    private static void cheapest() {
        AllSworn x = Due.told("b5;p0,4;p0,3;p0,7;h3;h4;h2;h6;");
        due.is("HARM", x.cheapest(0, 0), 2);
        due.is("PRICE", x.cheapest(0, 1), 3);
        x.askFor(1);
        due.is("HARM then", x.cheapest(1, 0), 1);
        due.is("PRICE then", x.cheapest(1, 1), 7);
        due.is("when 1 lapses", x.cheapest(6, 0), 2);
        x.askFor(2);
        due.is("all are SAFE", x.cheapest(2, 0), Due.NONE);
        due.is("at no PRICE", x.cheapest(2, 1), Due.NONE);
        due.is("cheapest(1, 0)", x.cheapest(1, 0), Due.BAD);
        due.is("cheapest(102, 0)", x.cheapest(102, 0), 2);
        due.is("cheapest(103, 0)", x.cheapest(103, 0), Due.BAD);
        due.is("cheapest(2, 2)", x.cheapest(2, 2), Due.BAD);
        due.is("cheapest(2, -1)", x.cheapest(2, -1), Due.BAD);
        AllSworn y = Due.told("b5;p0,4;p0,4;p0,0;h1;h2;h4;h4;");
        due.is("for nothing, the first", y.cheapest(0, 0), 2);
        due.is("PRICE 0", y.cheapest(0, 1), 0);
        y.askFor(2);
        due.is("of several the first", y.cheapest(1, 0), 0);
    }

    private static void defended() {
        AllSworn x = Due.told("b9;p0,4;p0,3;p0,9;h1;h2;h4;");
        due.is("the cheapest is to be ASKED", x.defended(0, 0), 1);
        due.is("then it costs", x.defended(0, 1), 4);
        x.askFor(1);
        due.is("then", x.defended(1, 0), 0);
        due.is("then it costs", x.defended(1, 1), 9);
        x.askFor(0);
        due.is("the last", x.defended(2, 0), 2);
        due.is("all are SAFE: most of all", x.defended(2, 1), Due.NONE);
        due.is("defended(1, 0)", x.defended(1, 0), Due.BAD);
        due.is("defended(103, 0)", x.defended(103, 0), Due.BAD);
        due.is("defended(102, 0)", x.defended(102, 0), 0);
        due.is("defended(2, 2)", x.defended(2, 2), Due.BAD);
        due.is("defended(2, -1)", x.defended(2, -1), Due.BAD);
        due.is("nothing changes", x.count(3), 2);
        due.is("nor ACTS", x.count(6), 2);
        AllSworn y = Due.told("b9;p0,4;p0,4;h3;");
        due.is("of several the first", y.defended(0, 0), 0);
        AllSworn z = Due.told("b9;l0,4;l0,4;h1;h2;");
        due.is("none helps", z.defended(0, 0), 0);
        due.is("as it was", z.defended(0, 1), 4);
        AllSworn w = Due.told("b9;l0,20;p0,20;p0,20;p0,20;p0,20;p0,20;p0,20;p0,20;h255;");
        due.is("NONE is more than the dearest", w.defended(0, 0), 1);
        due.is("that is NONE", w.defended(0, 1), Due.NONE);
    }

    private static void defendedLater() {
        AllSworn x = Due.told("b3;p0,9;f5,1;p0,2;h1;h6;");
        due.is("on DAY 0, behind 20 DAYS", x.defended(0, 1), 9);
        due.is("the first that makes it 9", x.defended(0, 0), 1);
        due.is("on DAY 5 only 1 holds, as it ends on DAY 20", x.defended(5, 0), 1);
        due.is("on DAY 23 none holds", x.defended(23, 0), 0);
        due.is("on DAY 23", x.defended(23, 1), 3);
        AllSworn y = Due.told("b5;p0,1;p3,8;h1;h2;");
        y.askFor(0);
        due.is("asking takes so long that 0 lapses", y.defended(1, 0), 0);
        due.is("so 0 anew", y.defended(1, 1), 8);
    }

    private static void enough() {
        AllSworn x = Due.told("b5;p0,0;m0,0;y0,0;f0,0;l0,0;h1;");
        due.is("PLAIN ones", x.enough(1), 1);
        AllSworn y = Due.told("b5;p0,0;m0,0;y0,0;f0,0;l0,0;h17;h24;h6;");
        due.is("how many", y.enough(0), 2);
        due.is("of several the least", y.enough(1), 2 + 16);
        due.is("enough(2)", y.enough(2), Due.BAD);
        due.is("enough(-1)", y.enough(-1), Due.BAD);
        AllSworn z = Due.told("b5;p0,0;m0,0;y0,0;f0,0;l0,0;h1;h2;h4;h8;h16;");
        due.is("all five", z.enough(0), 5);
        due.is("all five, which", z.enough(1), 31);
        AllSworn w = Due.told("b5;m0,0;y0,0;h1;h2;");
        due.is("as told, not as what they are too", w.enough(1), 6);
        AllSworn v = Due.told("b5;p0,0;f0,0;h2;h3;");
        v.askFor(0);
        v.askFor(1);
        due.is("whatever was SWORN", v.enough(1), 8);
    }

    private static void odds() {
        AllSworn x = Due.told("b20;p0,0;p0,0;m0,0;l0,0;h1;h3;h7;h8;h15;");
        fraction(x, 0, 3, 0, 1);
        fraction(x, 0, 0, 0, 1);
        fraction(x, 0, 10, 0, 1);
        x.askFor(0);
        x.askFor(1);
        x.askFor(2);
        x.askFor(3);
        fraction(x, 0, 0, 1, 1);
        fraction(x, 0, 10, 0, 1);
        fraction(x, 0, 3, 7, 10);
        fraction(x, 0, 5, 1, 2);
        fraction(x, 1, 3, 91, 100);
        fraction(x, 1, 2, 24, 25);
        fraction(x, 2, 5, 7, 8);
        fraction(x, 2, 9, 271, 1000);
        fraction(x, 3, 4, 0, 1);
        fraction(x, 4, 6, 98, 125);
        due.is("odds(5, 0, 0)", x.odds(5, 0, 0), Due.BAD);
        due.is("odds(-1, 0, 0)", x.odds(-1, 0, 0), Due.BAD);
        due.is("odds(0, 11, 0)", x.odds(0, 11, 0), Due.BAD);
        due.is("odds(0, -1, 0)", x.odds(0, -1, 0), Due.BAD);
        due.is("odds(0, 0, 2)", x.odds(0, 0, 2), Due.BAD);
        due.is("odds(0, 0, -1)", x.odds(0, 0, -1), Due.BAD);
        AllSworn y = Due.told("b40;p0,0;p0,0;p0,0;p0,0;p0,0;p0,0;p0,0;p0,0;h255;");
        for (int t = 0; t < 8; t++) {
            y.askFor(t);
        }
        fraction(y, 0, 9, 100000000 - 43046721, 100000000);
        fraction(y, 0, 3, 100000000 - 6561, 100000000);
        AllSworn z = Due.told("b40;p0,0;m0,0;h2;");
        z.askFor(1);
        fraction(z, 0, 3, 0, 1);
    }

    private static void fraction(AllSworn x, int harm, int c, int above, int below) {
        due.is("odds(" + harm + ", " + c + ", 0)", x.odds(harm, c, 0), above);
        due.is("odds(" + harm + ", " + c + ", 1)", x.odds(harm, c, 1), below);
    }

    private static void hitBy() {
        AllSworn x = Due.told("b3;p0,0;p0,0;p0,0;h1;h2;h3;h4;");
        x.askFor(0);
        x.askFor(1);
        // From DAY 2 on, OPEN: HARM 0 from 4 on, 1 from 5 on, 2 from 5 on, 3 always.
        String[] tales = {"0011", "0001", "1111", "0000", "1", "0", "00", "001", "0010", "01"};
        int[] due1 = {1, 6, 8, 0, 8, 7, 7, 1, 0, 0};
        for (int lane = 0; lane <= 2; lane++) {
            x.row(lane, lane, 40);
            for (int k = 0; k < tales.length; k++) {
                for (int i = 0; i < tales[k].length(); i++) {
                    x.set(lane, 20 + i, tales[k].charAt(i) - '0');
                }
                due.is("tale " + tales[k], x.hitBy(lane, 20, tales[k].length()), due1[k]);
            }
        }
        x.row(5, 2, 12);
        for (int i = 0; i < 12; i++) {
            x.set(5, i, 1);
        }
        due.is("12 DAYS", x.hitBy(5, 0, 12), 8);
        due.is("nothing changes", x.count(3), 2);
    }

    private static void hitByRefusals() {
        AllSworn x = Due.told("b3;p0,0;h1;");
        x.row(0, 0, 12);
        x.set(0, 11, 2);
        due.is("hitBy(8, 0, 1)", x.hitBy(8, 0, 1), Due.BAD);
        due.is("hitBy(-1, 0, 1)", x.hitBy(-1, 0, 1), Due.BAD);
        due.is("hitBy(0, 0, 0)", x.hitBy(0, 0, 0), Due.BAD);
        due.is("hitBy(0, 0, 13)", x.hitBy(0, 0, 13), Due.BAD);
        due.is("hitBy(1, 0, 13)", x.hitBy(1, 0, 13), Due.BAD);
        due.is("hitBy(1, 99, 1)", x.hitBy(1, 99, 1), Due.NULL);
        due.is("hitBy(0, -1, 1)", x.hitBy(0, -1, 1), Due.PLACE);
        due.is("hitBy(0, 12, 1)", x.hitBy(0, 12, 1), Due.PLACE);
        due.is("hitBy(0, 10, 3)", x.hitBy(0, 10, 3), Due.PLACE);
        due.is("hitBy(0, MOST, 12)", x.hitBy(0, Integer.MAX_VALUE, 12), Due.PLACE);
        due.is("an ITEM of 2", x.hitBy(0, 0, 12), Due.BAD);
        due.is("an ITEM of 2 alone", x.hitBy(0, 11, 1), Due.BAD);
        x.set(0, 11, -1);
        due.is("an ITEM of -1", x.hitBy(0, 11, 1), Due.BAD);
        due.is("up to it", x.hitBy(0, 0, 11), 0);
        x.set(0, 0, 1);
        due.is("up to it, 1", x.hitBy(0, 0, 1), 1);
    }

    private static void terms() {
        AllSworn x = Due.told("b3;p0,0;p0,0;l0,0;h1;h3;");
        due.is("none has SWORN", x.terms(), Due.NONE);
        x.askFor(0);
        due.is("on the very DAY", x.terms(), 1);
        x.waits(1);
        due.is("a DAY later", x.terms(), 2);
        x.waits(38);
        due.is("DAY 40", x.terms(), 40);
        x.waits(1);
        due.is("DAY 41", x.terms(), Due.NONE);
        due.is("TERM is as it was", x.count(5), 3);
        AllSworn y = Due.told("b3;p0,0;m0,0;h2;h1;");
        y.askFor(1);
        y.waits(4);
        y.askFor(0);
        due.is("the oldest that is wanted", y.terms(), 6);
    }

    private static void nearTheLastDay() {
        AllSworn x = Due.told("b3;p9,4;h1;");
        Due.days(x, 999);
        due.is("askFor", x.askFor(0), Due.FULL);
        due.is("gap()", x.gap(), 999);
        due.is("cover(0)", x.cover(0), 1);
        due.is("cheapest(1099, 1)", x.cheapest(1099, 1), 4);
        due.is("what is FORETOLD has no last DAY", x.round(-2), 18);
        due.is("nor has what is DEFENDED", x.defended(999, 1), Due.NONE);
    }
}
