import java.math.BigInteger;

/** Each sentence of the document that sets a bound to what is FORETOLD (Terms 3; promises 16 to 24), from both sides. */
public final class EdgesForetoldTest {
    private static final Due due = new Due("EdgesForetoldTest");
    private static final int MOST = Integer.MAX_VALUE, LEAST = Integer.MIN_VALUE;

    public static void main(String[] args) {
        stateAheadOfBad();
        gapFromThisDayOn();
        gapOfTheLongestTerm();
        coverOfNoneToAll();
        coverWithYoungOnes();
        coverOfSeveral();
        coverBesideOaths();
        roundOfNoneToFour();
        roundOfUnlikeOnes();
        roundWhoseOathsHold();
        roundWithYoungOnes();
        roundOfSeveral();
        roundByWhat();
        cheapestOnDays();
        cheapestOfSeveral();
        cheapestOfNoneAndAll();
        defendedOnDays();
        defendedBehindTheAsking();
        defendedByNone();
        defendedOfSeveral();
        enoughOfNoneToFive();
        enoughOfSeveral();
        enoughIfTheyWereBound();
        oddsOfAllNumbers();
        oddsOfThoseBound();
        oddsRefused();
        hitByOneToTwelve();
        hitByPlaces();
        hitByItems();
        hitByTheVeryDay();
        termsOneToForty();
        termsOfTheOldest();
        onTheLastDay();
        due.end();
    }

    private static AllSworn on(int day, String text) {
        AllSworn x = Due.told(text);
        Due.days(x, day);
        return x;
    }

    private static String plain(int n) {
        return "p0,0;".repeat(n);
    }

    /** A HARM by each THING alone. */
    private static String alone(int n) {
        StringBuilder text = new StringBuilder();
        for (int t = 0; t < n; t++) {
            text.append('h').append(1 << t).append(';');
        }
        return text.toString();
    }

    /** "BAD; STATE: no REALM (ahead of BAD)". */
    private static void stateAheadOfBad() {
        AllSworn x = new AllSworn();
        AllSworn y = Due.told("b9;p0,0;h1;");
        for (int what : new int[] {LEAST, -3, 4, MOST}) {
            due.is("cover", x.cover(what), Due.STATE);
            due.is("cover", y.cover(what), Due.BAD);
            due.is("round", x.round(what), Due.STATE);
            due.is("round", y.round(what), Due.BAD);
            due.is("enough", x.enough(what), Due.STATE);
            due.is("enough", y.enough(what), Due.BAD);
            due.is("cheapest by what", x.cheapest(0, what), Due.STATE);
            due.is("cheapest by what", y.cheapest(0, what), Due.BAD);
            due.is("defended by what", x.defended(0, what), Due.STATE);
            due.is("defended by what", y.defended(0, what), Due.BAD);
        }
        for (int day : new int[] {LEAST, -1, 101, MOST}) {
            due.is("cheapest by DAY", x.cheapest(day, 0), Due.STATE);
            due.is("cheapest by DAY", y.cheapest(day, 0), Due.BAD);
            due.is("defended by DAY", x.defended(day, 0), Due.STATE);
            due.is("defended by DAY", y.defended(day, 0), Due.BAD);
        }
        for (int row : new int[] {LEAST, -1, 8, MOST}) {
            due.is("hitBy", x.hitBy(row, 0, 1), Due.STATE);
            due.is("hitBy", y.hitBy(row, 0, 1), Due.BAD);
        }
        due.is("gap", x.gap(), Due.STATE);
        due.is("terms", x.terms(), Due.STATE);
        due.is("hitBy of none", x.hitBy(0, 0, 0), Due.STATE);
        due.is("odds has no STATE", x.odds(0, 0, 0), Due.BAD);
    }

    /** "GAP: the first DAY from this one on .. on which some HARM is OPEN". */
    private static void gapFromThisDayOn() {
        AllSworn x = Due.told("b6;p0,0;p0,0;h1;h2;");
        due.is("this one", x.gap(), 0);
        x.askFor(0);
        x.askFor(1);
        due.is("the first of two that lapse", x.gap(), 7);
        x.waits(4);
        due.is("the next DAY", x.gap(), 7);
        x.waits(1);
        due.is("this one again", x.gap(), 7);
        x.waits(1);
        due.is("not one that is gone", x.gap(), 8);
        due.is("no HARMS: NONE", Due.told("b6;p0,0;").gap(), Due.NONE);
        due.is("no THINGS: NONE", Due.told("b6;").gap(), Due.NONE);
    }

    private static void gapOfTheLongestTerm() {
        for (int term : new int[] {1, 2, 39, 40}) {
            AllSworn x = Due.told("b" + term + ";p0,0;h1;");
            x.askFor(0);
            due.is("TERM " + term, x.gap(), 1 + term);
        }
    }

    /** "COVER: the fewest THINGS that would have to SWEAR on this DAY .. how many; which (bits) ..; NONE". */
    private static void coverOfNoneToAll() {
        for (int n = 0; n <= 8; n++) {
            AllSworn x = Due.told("b9;" + plain(8) + alone(n));
            due.is(n + " of eight, how many", x.cover(0), n);
            due.is(n + " of eight, which", x.cover(1), (1 << n) - 1);
        }
        AllSworn y = Due.told("b9;l0,0;" + plain(7) + alone(1));
        due.is("none will do, how many", y.cover(0), Due.NONE);
        due.is("none will do, which", y.cover(1), Due.NONE);
        for (int what : new int[] {LEAST, -1, 2, MOST}) {
            due.is("cover(" + what + ")", y.cover(what), Due.BAD);
        }
        due.is("no THINGS", Due.told("b9;").cover(1), 0);
    }

    /** "(young ones only if it is 10 or later ..)". */
    private static void coverWithYoungOnes() {
        for (int day = 8; day <= 11; day++) {
            AllSworn x = on(day, "b9;y0,0;p0,0;p0,0;h3;h5;");
            due.is("DAY " + day + ", how many", x.cover(0), day < 10 ? 2 : 1);
            due.is("DAY " + day + ", which", x.cover(1), day < 10 ? 6 : 1);
            due.is("DAY " + day + ", young alone", on(day, "b9;y0,0;h1;").cover(0), day < 10 ? Due.NONE : 1);
        }
    }

    /** "of several the least": fewest THINGS first, then the least bits. */
    private static void coverOfSeveral() {
        AllSworn x = Due.told("b9;" + plain(8) + "h129;h130;");
        due.is("one of the greatest bit ahead of two", x.cover(1), 128);
        due.is("how many", x.cover(0), 1);
        AllSworn y = Due.told("b9;" + plain(8) + "h192;h48;");
        due.is("64 and 16", y.cover(1), 80);
        AllSworn z = Due.told("b9;p0,0;m0,0;m0,0;f0,0;h12;");
        due.is("a mixed one would ask for two more", z.cover(1), 8);
        due.is("a harm by the mixed one alone", Due.told("b9;p0,0;m0,0;m0,0;h4;").cover(1), 7);
        due.is("number 0 asks for none", Due.told("b9;m0,0;h1;").cover(1), 1);
    }

    /** "(.. all others as they have SWORN)". */
    private static void coverBesideOaths() {
        AllSworn x = Due.told("b3;p0,0;m0,0;h2;");
        x.askFor(0);
        due.is("the one before holds", x.cover(1), 2);
        x.waits(2);
        due.is("it holds on its last DAY", x.cover(1), 2);
        x.waits(1);
        due.is("it has lapsed", x.cover(1), 3);
        x.askFor(1);
        x.askFor(0);
        due.is("all holds", x.cover(0), 0);
        due.is("none, bits", x.cover(1), 0);
        x.waits(2);
        due.is("the later one lapsed", x.cover(1), 2);
    }

    /** "ROUND: .. if some THINGS (none to 4, unlike) are ASKED from now on". */
    private static void roundOfNoneToFour() {
        for (int n = 0; n <= 5; n++) {
            AllSworn x = Due.told("b40;" + plain(8) + alone(n));
            boolean is = n <= 4;
            due.is(n + ": DAYS", x.round(-2), is ? n : Due.NONE);
            due.is(n + ": how many", x.round(-1), is ? n : Due.NONE);
            for (int k = 0; k < 4; k++) {
                due.is(n + ": number " + k, x.round(k), is && k < n ? k : Due.NONE);
            }
        }
        AllSworn y = Due.told("b40;" + plain(8) + alone(5));
        y.askFor(2);
        due.is("one has SWORN, four are left", y.round(-1), 4);
        due.is("which is third", y.round(2), 3);
        due.is("no THINGS", Due.told("b40;").round(-2), 0);
        AllSworn z = Due.told("b40;" + plain(5) + alone(4));
        due.is("four, and then another REALM", z.round(3), 3);
        Due.feed(z, "b40;" + plain(5) + alone(5));
        z.realm();
        for (int what = -2; what < 4; what++) {
            due.is("nothing is left of the round before, " + what, z.round(what), Due.NONE);
        }
    }

    /** "(none to 4, unlike)": from DAY 8 a young one would have to be ASKED twice, or behind another. */
    private static void roundOfUnlikeOnes() {
        for (int t = 0; t < 8; t++) {
            String others = "l9,0;".repeat(t) + "y0,0;" + "l9,0;".repeat(7 - t);
            AllSworn x = on(8, "b9;" + others + "h" + (1 << t) + ";");
            due.is(t + " is not ASKED twice, DAYS", x.round(-2), 37);
            due.is("how many", x.round(-1), 2);
            due.is("first", x.round(0), t == 0 ? 1 : 0);
            due.is("second", x.round(1), t);
        }
        AllSworn x = on(8, "b9;y0,0;h1;");
        due.is("not twice, from DAY 8", x.round(-2), Due.NONE);
        x.waits(1);
        due.is("once, from DAY 9", x.round(-2), 1);
    }

    /** "the fewest DAYS behind which all HARMS are SAFE": an oath may lapse on the way. */
    private static void roundWhoseOathsHold() {
        for (int term : new int[] {1, 2, 6, 7, 40}) {
            AllSworn x = Due.told("b" + term + ";p0,0;p3,0;h1;h2;");
            due.is("TERM " + term + ", DAYS", x.round(-2), term == 1 ? Due.NONE : 7);
            due.is("TERM " + term + ", first", x.round(0), term == 1 ? Due.NONE : term < 7 ? 1 : 0);
            due.is("TERM " + term + ", second", x.round(1), term == 1 ? Due.NONE : term < 7 ? 0 : 1);
        }
        due.is("four within TERM 4", Due.told("b4;" + plain(4) + alone(4)).round(-2), 4);
        due.is("four within TERM 3", Due.told("b3;" + plain(4) + alone(4)).round(-2), Due.NONE);
        for (int waited = 0; waited <= 2; waited++) {
            AllSworn x = Due.told("b6;p0,0;p2,0;h1;h2;");
            x.askFor(0);
            if (waited > 0) {
                x.waits(waited);
            }
            due.is("what was SWORN holds until then, or not", x.round(-1), waited <= 1 ? 1 : 2);
            due.is("DAYS", x.round(-2), waited <= 1 ? 4 : 5);
        }
        AllSworn y = Due.told("b2;p0,0;h1;");
        y.askFor(0);
        y.waits(1);
        due.is("SAFE on the last DAY", y.round(-2), 0);
        y.waits(1);
        due.is("OPEN behind it", y.round(-2), 1);
    }

    private static void roundWithYoungOnes() {
        for (int far : new int[] {4, 5}) {
            AllSworn x = Due.told("b40;y" + far + ",0;h1;");
            due.is("young, FAR " + far, x.round(-2), far == 5 ? 10 : Due.NONE);
        }
        AllSworn y = Due.told("b40;y0,0;p4,0;f2,0;p0,0;h1;");
        due.is("8 and 1 and 1", y.round(-2), 10);
        due.is("how many", y.round(-1), 3);
        due.is("first by numbers", y.round(0) * 100 + y.round(1) * 10 + y.round(2), 130);
        AllSworn z = Due.told("b40;y4,0;p0,0;p1,0;h1;");
        due.is("1 and 8 are too early, 2 and 8 do", z.round(-2), 10);
        due.is("first", z.round(0), 2);
    }

    /** "of several rows that of fewest THINGS, then the first by numbers". */
    private static void roundOfSeveral() {
        AllSworn x = Due.told("b40;" + plain(4) + "p2,0;h17;h18;h20;h24;");
        due.is("four of 1 DAY, or one of 4: DAYS", x.round(-2), 4);
        due.is("the fewest THINGS", x.round(-1), 1);
        due.is("which", x.round(0), 4);
        AllSworn y = Due.told("b40;" + plain(3) + "p2,0;h9;h10;h12;");
        due.is("three of 1 DAY, or one of 4: the fewest DAYS", y.round(-2), 3);
        due.is("three", y.round(-1), 3);
        AllSworn z = Due.told("b40;" + plain(8) + "h192;h48;");
        due.is("first by numbers", z.round(0), 4);
        due.is("then", z.round(1), 6);
        AllSworn w = Due.told("b40;f0,0;p0,0;y0,0;p0,0;h10;");
        due.is("the first of two", w.round(0), 1);
    }

    /** "DAYS (what = -2), how many are ASKED (-1), the k-th (0 to 3; NONE: so many are not); NONE. BAD". */
    private static void roundByWhat() {
        AllSworn x = Due.told("b40;" + plain(2) + alone(2));
        int[] whats = {LEAST, -3, -2, -1, 0, 1, 2, 3, 4, MOST};
        int[] want = {Due.BAD, Due.BAD, 2, 2, 0, 1, Due.NONE, Due.NONE, Due.BAD, Due.BAD};
        for (int k = 0; k < whats.length; k++) {
            due.is("round(" + whats[k] + ")", x.round(whats[k]), want[k]);
        }
    }

    /** "CHEAPEST on a DAY (this one to 100 later), if nothing is ASKED any more". */
    private static void cheapestOnDays() {
        for (int today : new int[] {0, 7, 998}) {
            AllSworn x = on(today, "b40;p0,3;p0,5;h1;h2;");
            x.askFor(0);
            int day = today + 1;
            due.is("this one", x.cheapest(day, 0), 1);
            due.is("its PRICE", x.cheapest(day, 1), 5);
            due.is("the last on which 0 holds", x.cheapest(day + 39, 0), 1);
            due.is("the first on which it does not", x.cheapest(day + 40, 0), 0);
            due.is("its PRICE", x.cheapest(day + 40, 1), 3);
            due.is("100 later", x.cheapest(day + 100, 1), 3);
            for (int wrong : new int[] {LEAST, LEAST + 100, day - 1, day + 101, MOST - 100, MOST}) {
                due.is("cheapest(" + wrong + ", 0)", x.cheapest(wrong, 0), Due.BAD);
                due.is("cheapest(" + wrong + ", 1)", x.cheapest(wrong, 1), Due.BAD);
            }
            for (int what : new int[] {LEAST, -1, 2, MOST}) {
                due.is("cheapest by " + what, x.cheapest(day, what), Due.BAD);
            }
        }
    }

    /** "whose THINGS have least PRICE together, of several the first". */
    private static void cheapestOfSeveral() {
        AllSworn x = Due.told("b40;p0,2;p0,3;p0,5;h4;h3;h4;h2;h2;");
        due.is("3 ahead of 5 and 2 and 3", x.cheapest(0, 0), 3);
        x.askFor(1);
        due.is("the first of two that cost 5", x.cheapest(1, 0), 0);
        AllSworn y = Due.told("b40;p0,2;p0,3;p0,5;h3;h4;");
        due.is("2 and 3 are 5, the first", y.cheapest(0, 0), 0);
        AllSworn z = Due.told("b40;p0,2;p0,3;p0,4;h3;h4;");
        due.is("2 and 3 are more than 4", z.cheapest(0, 0), 1);
        due.is("that PRICE", z.cheapest(0, 1), 4);
    }

    /** "NONE: all are SAFE". */
    private static void cheapestOfNoneAndAll() {
        AllSworn x = Due.told("b1;p0,0;h1;");
        due.is("for nothing", x.cheapest(0, 1), 0);
        due.is("the HARM", x.cheapest(0, 0), 0);
        x.askFor(0);
        due.is("NONE is OPEN", x.cheapest(1, 0), Due.NONE);
        due.is("at no PRICE", x.cheapest(1, 1), Due.NONE);
        due.is("the DAY behind", x.cheapest(2, 0), 0);
        AllSworn y = Due.told("b1;" + "p0,20;".repeat(8) + "h255;");
        due.is("the dearest", y.cheapest(0, 1), 160);
        due.is("no HARMS", Due.told("b1;p0,0;").cheapest(0, 0), Due.NONE);
        due.is("no HARMS, PRICE", Due.told("b1;p0,0;").cheapest(100, 1), Due.NONE);
    }

    /** "DEFENDED on a DAY (this one to 100 later; ..)". */
    private static void defendedOnDays() {
        for (int today : new int[] {0, 7, 999}) {
            AllSworn x = on(today, "b40;p0,3;p0,5;h1;h2;");
            due.is("this one", x.defended(today, 1), 5);
            due.is("the last on which it would hold", x.defended(today + 40, 1), 5);
            due.is("the first on which it would not", x.defended(today + 41, 1), 3);
            due.is("100 later", x.defended(today + 100, 0), 0);
            for (int wrong : new int[] {LEAST, LEAST + 100, today - 1, today + 101, MOST - 100, MOST}) {
                due.is("defended(" + wrong + ", 0)", x.defended(wrong, 0), Due.BAD);
                due.is("defended(" + wrong + ", 1)", x.defended(wrong, 1), Due.BAD);
            }
            for (int what : new int[] {LEAST, -1, 2, MOST}) {
                due.is("defended by " + what, x.defended(today, what), Due.BAD);
            }
        }
    }

    /** "as it is behind the ASKING, if that ends later". */
    private static void defendedBehindTheAsking() {
        AllSworn x = Due.told("b1;p3,7;h1;");
        for (int day = 0; day <= 8; day++) {
            due.is("it ends on DAY 6, on " + day, x.defended(day, 1), day <= 6 ? Due.NONE : 7);
        }
        AllSworn y = Due.told("b5;p0,9;p3,4;p0,2;h1;h2;h4;");
        y.askFor(2);
        due.is("on DAY 1: 1 would end on 7, when 2 has lapsed", y.defended(1, 0), 0);
        due.is("its PRICE", y.defended(1, 1), 4);
        AllSworn z = Due.told("b7;p0,9;p3,4;p0,2;h1;h2;h4;");
        z.askFor(2);
        due.is("by TERM 7 it has not", z.defended(1, 0), 1);
        due.is("its PRICE", z.defended(1, 1), 9);
        due.is("on DAY 8 it has, and is to be ASKED anew", z.defended(8, 0), 2);
        due.is("its PRICE", z.defended(8, 1), 4);
        AllSworn w = Due.told("b40;y4,5;y5,5;h1;h2;");
        due.is("young ones ASKED too early", w.defended(0, 1), 5);
        AllSworn v = Due.told("b40;y4,5;h1;");
        due.is("in vain", v.defended(0, 1), 5);
        due.is("not in vain", Due.told("b40;y5,5;h1;").defended(0, 1), Due.NONE);
    }

    /** "NONE: there are no THINGS". */
    private static void defendedByNone() {
        AllSworn x = Due.told("b9;");
        due.is("no THINGS", x.defended(0, 0), Due.NONE);
        due.is("no PRICE", x.defended(100, 1), Due.NONE);
        due.is("yet BAD", x.defended(101, 0), Due.BAD);
        AllSworn y = Due.told("b9;p0,0;");
        due.is("one THING, no HARMS", y.defended(0, 0), 0);
        due.is("no PRICE", y.defended(0, 1), Due.NONE);
        AllSworn z = Due.told("b9;l0,0;h1;");
        due.is("one that is false", z.defended(0, 0), 0);
        due.is("for nothing", z.defended(0, 1), 0);
    }

    /** "costs most (NONE is most of all), of several the first". */
    private static void defendedOfSeveral() {
        AllSworn x = Due.told("b9;" + "l0,20;".repeat(7) + "p0,20;h255;");
        due.is("NONE is more than 160", x.defended(0, 0), 7);
        due.is("that", x.defended(0, 1), Due.NONE);
        AllSworn y = Due.told("b9;p0,1;p0,1;p0,1;h3;h6;");
        due.is("1 alone makes all SAFE", y.defended(0, 0), 1);
        AllSworn z = Due.told("b9;p0,1;p0,1;p0,1;h7;");
        due.is("each does, the first", z.defended(0, 0), 0);
        AllSworn w = Due.told("b9;p0,0;p0,0;h1;h2;");
        due.is("for nothing in any case, the first", w.defended(0, 0), 0);
        due.is("for nothing", w.defended(0, 1), 0);
        AllSworn v = Due.told("b9;p0,0;p0,0;p0,1;h1;h5;h6;");
        due.is("more than nothing", v.defended(0, 0), 0);
        due.is("1", v.defended(0, 1), 1);
    }

    /** "KINDS ENOUGH: the fewest KINDS (1 to 5, bits 0 to 4)". */
    private static void enoughOfNoneToFive() {
        String things = "b9;p0,0;m0,0;y0,0;f0,0;l0,0;";
        for (int n = 0; n <= 5; n++) {
            AllSworn x = Due.told(things + alone(n));
            due.is(n + " KINDS", x.enough(0), n);
            due.is(n + " KINDS, which", x.enough(1), (1 << n) - 1);
        }
        for (int kind = 1; kind <= 5; kind++) {
            AllSworn x = Due.told("b9;" + "pmyfl".charAt(kind - 1) + "0,0;h1;");
            due.is("KIND " + kind + " alone", x.enough(0), 1);
            due.is("KIND " + kind + " is bit " + (kind - 1), x.enough(1), 1 << kind - 1);
        }
        AllSworn y = Due.told("b9;" + plain(8) + alone(8));
        due.is("eight of one KIND", y.enough(0), 1);
        for (int what : new int[] {LEAST, -1, 2, MOST}) {
            due.is("enough(" + what + ")", y.enough(what), Due.BAD);
        }
    }

    /** "which, of several the least": the fewest first. */
    private static void enoughOfSeveral() {
        AllSworn x = Due.told("b9;p0,0;m0,0;l0,0;h5;h6;");
        due.is("one of the greatest bit ahead of two", x.enough(1), 16);
        AllSworn y = Due.told("b9;p0,0;m0,0;y0,0;f0,0;h10;h5;");
        due.is("plain and mixed ahead of others", y.enough(1), 3);
        AllSworn z = Due.told("b9;m0,0;y0,0;f0,0;l0,0;h9;h6;");
        due.is("mixed and young", z.enough(1), 6);
    }

    /** "if all THINGS that are told as these KINDS were BOUND, and no others". */
    private static void enoughIfTheyWereBound() {
        AllSworn x = on(9, "b9;p0,0;m0,0;y0,0;l0,0;h2;h4;h8;");
        due.is("mixed ones behind none, young ones too early, false ones", x.enough(1), 2 + 4 + 16);
        x.askFor(0);
        x.askFor(1);
        x.askFor(2);
        due.is("whatever has SWORN", x.enough(1), 2 + 4 + 16);
        due.is("a mixed one is not told as plain", Due.told("b9;m0,0;h1;").enough(1), 2);
        due.is("a false one is not told as foreign", Due.told("b9;l0,0;h1;").enough(1), 16);
    }

    /** "ODDS by c (0 to 10): above (what = 0), below (1)"; "told as two numbers in lowest terms (0 is 0 by 1)". */
    private static void oddsOfAllNumbers() {
        for (int n = 0; n <= 8; n++) {
            AllSworn x = Due.told("b40;" + plain(8) + "h255;");
            for (int t = 0; t < n; t++) {
                x.askFor(t);
            }
            for (int c = 0; c <= 10; c++) {
                BigInteger below = BigInteger.TEN.pow(n);
                BigInteger above = below.subtract(BigInteger.valueOf(c).pow(n));
                BigInteger shared = above.gcd(below);
                due.is("above, " + n + " by " + c, x.odds(0, c, 0), above.divide(shared).intValueExact());
                due.is("below, " + n + " by " + c, x.odds(0, c, 1), below.divide(shared).intValueExact());
            }
        }
        AllSworn none = Due.told("b40;p0,0;h1;");
        due.is("0 is 0", none.odds(0, 5, 0), 0);
        due.is("by 1", none.odds(0, 5, 1), 1);
        none.askFor(0);
        due.is("10 of 10: 0", none.odds(0, 10, 0), 0);
        due.is("by 1 again", none.odds(0, 10, 1), 1);
        due.is("0 of 10: 1", none.odds(0, 0, 0), 1);
        due.is("by 1 as well", none.odds(0, 0, 1), 1);
    }

    /** "each of its THINGS that is BOUND". */
    private static void oddsOfThoseBound() {
        AllSworn x = Due.told("b3;p0,0;m0,0;l0,0;m0,0;f0,0;h3;h12;h18;h16;h1;");
        for (int t = 0; t < 5; t++) {
            x.askFor(t);
        }
        // DAY 5: 0 and 1 have lapsed, 2 is false, 3 is mixed behind it, 4 is BOUND.
        due.is("lapsed", x.odds(0, 2, 0), 0);
        due.is("false, and mixed behind it", x.odds(1, 2, 0), 0);
        due.is("one of two", x.odds(2, 2, 0) * 10 + x.odds(2, 2, 1), 45);
        due.is("alone", x.odds(3, 3, 0) * 100 + x.odds(3, 3, 1), 710);
        x.askFor(0);
        x.askFor(1);
        due.is("a mixed one by itself: 1 less 9 of 100", x.odds(0, 3, 0) * 1000 + x.odds(0, 3, 1), 91100);
        x.waits(1);
        due.is("on the last DAY of 0", x.odds(4, 3, 0), 7);
        x.waits(1);
        due.is("behind it", x.odds(4, 3, 0), 0);
    }

    private static void oddsRefused() {
        AllSworn x = Due.told("b9;" + plain(2) + alone(2));
        for (int h : new int[] {LEAST, -1, 2, 8, MOST}) {
            due.is("odds(" + h + ", 0, 0)", x.odds(h, 0, 0), Due.BAD);
        }
        for (int c : new int[] {LEAST, -1, 11, MOST}) {
            due.is("odds(0, " + c + ", 0)", x.odds(0, c, 0), Due.BAD);
        }
        for (int what : new int[] {LEAST, -1, 2, MOST}) {
            due.is("odds(0, 0, " + what + ")", x.odds(0, 0, what), Due.BAD);
        }
        due.is("odds(1, 10, 1)", x.odds(1, 10, 1), 1);
    }

    private static void laid(AllSworn x, int row, String items) {
        x.row(row, 2, items.length());
        for (int i = 0; i < items.length(); i++) {
            x.set(row, i, items.charAt(i) == '?' ? 2 : items.charAt(i) - '0');
        }
    }

    /** "n DAYS (1 to 12)". */
    private static void hitByOneToTwelve() {
        AllSworn x = Due.told("b9;p0,0;h1;");
        laid(x, 0, "1".repeat(40));
        for (int n = 1; n <= 12; n++) {
            due.is(n + " DAYS", x.hitBy(0, 0, n), 1);
        }
        for (int n : new int[] {LEAST, -1, 0, 13, 40, MOST}) {
            due.is(n + " DAYS", x.hitBy(0, 0, n), Due.BAD);
            due.is(n + " DAYS, BAD ahead of NULL", x.hitBy(1, 0, n), Due.BAD);
        }
    }

    /** "of a ROW from i on. BAD: ROW, n; ..; NULL; PLACE". */
    private static void hitByPlaces() {
        AllSworn x = Due.told("b9;p0,0;h1;");
        for (int size : new int[] {0, 1, 12, 40}) {
            laid(x, 0, "1".repeat(size));
            for (int n : new int[] {1, 2, 12}) {
                for (int i : new int[] {LEAST, -1, 0, size - n, size - n + 1, size, MOST - n, MOST}) {
                    boolean is = i >= 0 && i <= size - n;
                    due.is(n + " from " + i + " of " + size, x.hitBy(0, i, n), is ? 1 : Due.PLACE);
                }
            }
        }
        due.is("NULL ahead of PLACE", x.hitBy(1, -1, 1), Due.NULL);
        due.is("an empty ROW", x.row(2, 0, 0) + x.hitBy(2, 0, 1), Due.PLACE);
    }

    /** "then BAD: an ITEM neither 1 nor 0". */
    private static void hitByItems() {
        AllSworn x = Due.told("b9;p0,0;h1;");
        laid(x, 0, "?11?");
        due.is("those of the DAYS alone", x.hitBy(0, 1, 2), 1);
        due.is("the one ahead", x.hitBy(0, 0, 1), Due.BAD);
        due.is("the one ahead as the first", x.hitBy(0, 0, 3), Due.BAD);
        due.is("the one behind as the last", x.hitBy(0, 1, 3), Due.BAD);
        due.is("PLACE ahead of that", x.hitBy(0, 0, 5), Due.PLACE);
        for (int v : new int[] {LEAST, -2, -1, 0, 1, 2, 3, 256, 257, MOST}) {
            for (int lane = 0; lane <= 2; lane++) {
                x.row(1, lane, 1);
                int kept = x.set(1, 0, v);
                due.is(v + " by LANE " + lane, x.hitBy(1, 0, 1), kept == 0 ? 0 : kept == 1 ? 1 : Due.BAD);
            }
        }
    }

    /** "a row tells for each DAY from this one on whether he would be HIT (1) or not (0) by one and the same HARM". */
    private static void hitByTheVeryDay() {
        AllSworn x = Due.told("b12;" + plain(3) + "h1;h2;h4;h3;");
        x.askFor(0);
        x.askFor(1);
        // On DAY 2: HARM 0 is OPEN from DAY 13 on, 1 and 3 from DAY 14 on, 2 always.
        String[] tales = {"000000000001", "000000000000", "000000000011", "111111111111", "100000000000", "0", "1"};
        int[] want = {1, 2 + 8, 0, 4, 0, 1 + 2 + 8, 4};
        for (int k = 0; k < tales.length; k++) {
            laid(x, 0, tales[k]);
            due.is("tale " + tales[k], x.hitBy(0, 0, tales[k].length()), want[k]);
        }
        AllSworn y = Due.told("b9;" + plain(8) + "h255;".repeat(8));
        laid(y, 0, "10");
        due.is("all eight", y.hitBy(0, 0, 1), 255);
        due.is("none of eight", y.hitBy(0, 1, 1), 0);
        AllSworn z = Due.told("b9;");
        laid(z, 0, "0");
        due.is("there are no HARMS", z.hitBy(0, 0, 1), 0);
    }

    /** "TERMS: the least TERM (1 to 40) by which all HARMS would be SAFE on this DAY, SWORN as they are; NONE." */
    private static void termsOneToForty() {
        for (int told : new int[] {1, 40}) {
            for (int later = 0; later <= 41; later++) {
                AllSworn x = Due.told("b" + told + ";p0,0;h1;");
                x.askFor(0);
                Due.days(x, 1 + later);
                due.is(later + " DAYS later", x.terms(), later < 40 ? later + 1 : Due.NONE);
            }
        }
        due.is("no HARMS", Due.told("b40;p0,0;").terms(), 1);
        due.is("none has SWORN", Due.told("b40;p0,0;h1;").terms(), Due.NONE);
    }

    private static void termsOfTheOldest() {
        AllSworn x = Due.told("b1;p0,0;p0,0;m0,0;l0,0;h1;h6;");
        x.askFor(0);
        x.askFor(1);
        x.askFor(2);
        x.askFor(3);
        due.is("the oldest that each HARM needs", x.terms(), 4);
        x.askFor(0);
        due.is("the newest of those of a HARM", x.terms(), 4);
        x.askFor(1);
        due.is("sworn anew", x.terms(), 2);
        AllSworn y = Due.told("b1;l0,0;h1;");
        y.askFor(0);
        due.is("a false one", y.terms(), Due.NONE);
        AllSworn z = Due.told("b1;p0,0;m0,0;h2;");
        z.askFor(1);
        due.is("a mixed one without the one before", z.terms(), Due.NONE);
        z.askFor(0);
        due.is("with it", z.terms(), 2);
    }

    /** What is FORETOLD goes beyond DAY 999, which the document sets to askFor and waits alone. */
    private static void onTheLastDay() {
        AllSworn x = on(998, "b40;p0,3;p9,5;h1;h2;");
        x.askFor(0);
        due.is("gap", x.gap(), 999);
        due.is("cover", x.cover(1), 2);
        due.is("round", x.round(-2), 18);
        due.is("defended", x.defended(1099, 1), 3);
        due.is("all is SAFE behind 18 DAYS", x.defended(999, 1), Due.NONE);
        due.is("terms", x.terms(), Due.NONE);
        laid(x, 0, "000000000000");
        due.is("12 DAYS from it on", x.hitBy(0, 0, 12), 1);
    }
}
