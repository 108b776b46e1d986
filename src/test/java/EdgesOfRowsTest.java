/** Each sentence of the document that sets a bound to ROWS (Terms 1; promises 1 to 5 and 32), from both sides. */
public final class EdgesOfRowsTest {
    private static final Due due = new Due("EdgesOfRowsTest");
    private static final int MOST = Integer.MAX_VALUE, LEAST = Integer.MIN_VALUE;
    private static final int[] NO_ROW = {LEAST, -8, -1, 8, 9, MOST};

    public static void main(String[] args) {
        missingAtFirst();
        eightRows();
        threeLanes();
        noneToFortyItems();
        zeroAtFirst();
        inPlaceOfWhatIsThere();
        lowestBits();
        placesOfSet();
        placesOfCopy();
        copyThatWrapsAround();
        copyAsTheyWereAhead();
        copyOfNoneAndOfAll();
        copyInOrder();
        droppedOnce();
        rowsCounted();
        statusOfEach();
        statusOfTheLatest();
        due.end();
    }

    /** An object with a REALM whose one HARM is always OPEN, so that hitBy tells an ITEM. */
    private static AllSworn seer() {
        return Due.told("b1;p0,0;h1;");
    }

    /** What is seen of ITEMS from 0 on: 0, 1, or ? for neither. */
    private static String seen(AllSworn x, int row, int n) {
        StringBuilder items = new StringBuilder();
        for (int i = 0; i < n; i++) {
            int answer = x.hitBy(row, i, 1);
            items.append(answer == 0 ? '0' : answer == 1 ? '1' : answer == Due.BAD ? '?' : '!');
        }
        return items.toString();
    }

    private static void laid(AllSworn x, int row, int lane, String items) {
        x.row(row, lane, items.length());
        for (int i = 0; i < items.length(); i++) {
            x.set(row, i, items.charAt(i) == '?' ? 2 : items.charAt(i) - '0');
        }
    }

    private static void same(String what, String got, String want) {
        due.holds(what + ": " + got + ", due is " + want, got.equals(want));
    }

    /** "ROWS 0 .. 7 are missing (at first)". */
    private static void missingAtFirst() {
        for (int row = 0; row < 8; row++) {
            AllSworn x = seer();
            due.is("drop(" + row + ")", x.drop(row), Due.NULL);
            due.is("set(" + row + ", 0, 0)", x.set(row, 0, 0), Due.NULL);
            due.is("copy onto itself", x.copy(row, 0, row, 0, 0), Due.NULL);
            due.is("hitBy(" + row + ", 0, 1)", x.hitBy(row, 0, 1), Due.NULL);
            x.row(row, 0, 0);
            due.is("no longer", x.copy(row, 0, row, 0, 0), 0);
            for (int other = 0; other < 8; other++) {
                due.is("copy from " + other, x.copy(other, 0, row, 0, 0), other == row ? 0 : Due.NULL);
                due.is("copy to " + other, x.copy(row, 0, other, 0, 0), other == row ? 0 : Due.NULL);
            }
        }
    }

    /** "ROWS 0 .. 7"; "BAD: ROW". */
    private static void eightRows() {
        AllSworn x = seer();
        for (int row = 0; row < 8; row++) {
            due.is("row(" + row + ", 2, 1)", x.row(row, 2, 1), 1);
            due.is("set(" + row + ", 0, 9)", x.set(row, 0, 9), 9);
        }
        for (int row : NO_ROW) {
            due.is("row(" + row + ", 0, 1)", x.row(row, 0, 1), Due.BAD);
            due.is("set(" + row + ", 0, 1)", x.set(row, 0, 1), Due.BAD);
            due.is("copy(" + row + ", 0, 7, 0, 1)", x.copy(row, 0, 7, 0, 1), Due.BAD);
            due.is("copy(0, 0, " + row + ", 0, 1)", x.copy(0, 0, row, 0, 1), Due.BAD);
            due.is("drop(" + row + ")", x.drop(row), Due.BAD);
            due.is("hitBy(" + row + ", 0, 1)", x.hitBy(row, 0, 1), Due.BAD);
        }
        due.is("all eight are there", x.count(0), 8);
    }

    /** "a LANE (0 bytes, 1 shorts, 2 ints)"; "BAD: LANE". */
    private static void threeLanes() {
        int[] left = {112, 4464, 70000};
        AllSworn x = new AllSworn();
        for (int lane = 0; lane <= 2; lane++) {
            due.is("row(0, " + lane + ", 1)", x.row(0, lane, 1), 1);
            due.is("what LANE " + lane + " leaves of 70000", x.set(0, 0, 70000), left[lane]);
        }
        for (int lane : new int[] {LEAST, -1, 3, 4, MOST}) {
            due.is("row(0, " + lane + ", 1)", x.row(0, lane, 1), Due.BAD);
        }
        due.is("LANE 2 stays", x.set(0, 0, 70000), 70000);
    }

    /** "0 to 40 ITEMS"; "n above 40" is BAD, "fewer than none" SIZE. */
    private static void noneToFortyItems() {
        AllSworn x = new AllSworn();
        for (int lane = 0; lane <= 2; lane++) {
            due.is("none", x.row(1, lane, 0), 0);
            due.is("none has no place", x.set(1, 0, 1), Due.PLACE);
            due.is("one", x.row(1, lane, 1), 1);
            due.is("its place", x.set(1, 0, 1), 1);
            due.is("no other", x.set(1, 1, 1), Due.PLACE);
            due.is("39", x.row(1, lane, 39), 39);
            due.is("no place 39", x.set(1, 39, 1), Due.PLACE);
            due.is("40", x.row(1, lane, 40), 40);
            due.is("place 39", x.set(1, 39, 1), 1);
            due.is("no place 40", x.set(1, 40, 1), Due.PLACE);
            for (int n : new int[] {41, 42, 256, MOST}) {
                due.is(n + " ITEMS", x.row(1, lane, n), Due.BAD);
            }
            for (int n : new int[] {-1, -2, -40, LEAST}) {
                due.is(n + " ITEMS", x.row(1, lane, n), Due.SIZE);
            }
            due.is("40 stay", x.drop(1), 40);
        }
        due.is("BAD ahead of SIZE", x.row(8, 0, -1), Due.BAD);
        due.is("BAD ahead of SIZE by LANE", x.row(0, 3, LEAST), Due.BAD);
        due.is("nothing came to be", x.drop(0), Due.NULL);
    }

    /** "0 to 40 ITEMS, 0 at first". */
    private static void zeroAtFirst() {
        for (int lane = 0; lane <= 2; lane++) {
            AllSworn x = seer();
            x.row(5, lane, 40);
            same("new", seen(x, 5, 40), "0".repeat(40));
            laid(x, 5, lane, "1".repeat(40));
            x.row(5, lane, 3);
            x.row(5, lane, 40);
            same("laid anew", seen(x, 5, 40), "0".repeat(40));
            laid(x, 5, lane, "1".repeat(40));
            x.drop(5);
            x.row(5, lane, 40);
            same("dropped and laid anew", seen(x, 5, 40), "0".repeat(40));
        }
    }

    /** "A ROW of a LANE with n ITEMS, in place of what is there". */
    private static void inPlaceOfWhatIsThere() {
        AllSworn x = seer();
        laid(x, 0, 2, "1111");
        laid(x, 1, 2, "11");
        due.is("row(0, 0, 4)", x.row(0, 0, 4), 4);
        due.is("the LANE is another", x.copy(0, 0, 1, 0, 1), Due.STORE);
        same("ITEMS are 0", seen(x, 0, 4), "0000");
        same("another ROW stays", seen(x, 1, 2), "11");
        due.is("two are there", x.count(0), 2);
        due.is("found SIZE", x.row(1, 0, -1), Due.SIZE);
        same("it stays then", seen(x, 1, 2), "11");
    }

    /** "ITEM i becomes v, its lowest bits, as many as the LANE has: what it is then." */
    private static void lowestBits() {
        AllSworn x = seer();
        for (int lane = 0; lane <= 2; lane++) {
            x.row(lane, lane, 2);
        }
        int[][] told = {
            {127, 127, 127, 127}, {128, -128, 128, 128}, {-128, -128, -128, -128}, {-129, 127, -129, -129},
            {255, -1, 255, 255}, {256, 0, 256, 256}, {257, 1, 257, 257},
            {32767, -1, 32767, 32767}, {32768, 0, -32768, 32768}, {-32768, 0, -32768, -32768},
            {-32769, -1, 32767, -32769}, {65535, -1, -1, 65535}, {65536, 0, 0, 65536}, {65537, 1, 1, 65537},
            {MOST, -1, -1, MOST}, {LEAST, 0, 0, LEAST}, {LEAST + 1, 1, 1, LEAST + 1}, {-1, -1, -1, -1}, {0, 0, 0, 0}};
        for (int[] t : told) {
            for (int lane = 0; lane <= 2; lane++) {
                due.is("set " + t[0] + " by LANE " + lane, x.set(lane, 1, t[0]), t[1 + lane]);
                String kept = t[1 + lane] == 0 ? "0" : t[1 + lane] == 1 ? "1" : "?";
                same(t[0] + " is kept by LANE " + lane, seen(x, lane, 2), "0" + kept);
            }
        }
    }

    /** set: "PLACE (no such place of a ROW)". */
    private static void placesOfSet() {
        for (int n : new int[] {0, 1, 2, 39, 40}) {
            AllSworn x = seer();
            x.row(3, 1, n);
            if (n > 0) {
                due.is("the first of " + n, x.set(3, 0, 1), 1);
                due.is("the last of " + n, x.set(3, n - 1, 1), 1);
            }
            String items = seen(x, 3, n);
            for (int i : new int[] {LEAST, -n - 1, -1, n, n + 1, 40, 41, MOST}) {
                due.is("place " + i + " of " + n, x.set(3, i, 7), i >= 0 && i < n ? 7 : Due.PLACE);
            }
            same("what is found changes nothing", seen(x, 3, n), items);
        }
    }

    /** copy: "PLACE (i, j, n below 0, or beyond an end)". */
    private static void placesOfCopy() {
        int[][] ends = {{0, 0, 4, 4}, {0, 2, 4, 4}, {0, 3, 4, Due.PLACE}, {0, 0, 5, Due.PLACE}, {1, 0, 3, 3},
            {1, 0, 4, Due.PLACE}, {3, 5, 1, 1}, {3, 6, 1, Due.PLACE}, {4, 5, 1, Due.PLACE}, {4, 6, 0, 0},
            {5, 6, 0, Due.PLACE}, {4, 7, 0, Due.PLACE}, {0, 0, 0, 0}, {-1, 0, 0, Due.PLACE}, {0, -1, 0, Due.PLACE},
            {0, 0, -1, Due.PLACE}, {-1, 0, 1, Due.PLACE}, {0, -1, 1, Due.PLACE}, {1, 1, -1, Due.PLACE},
            {4, 6, -1, Due.PLACE}, {5, 7, -1, Due.PLACE}};
        for (int[] e : ends) {
            AllSworn x = seer();
            laid(x, 0, 1, "1111");
            laid(x, 2, 1, "??????");
            String call = "copy(0, " + e[0] + ", 2, " + e[1] + ", " + e[2] + ")";
            due.is(call, x.copy(0, e[0], 2, e[1], e[2]), e[3]);
            int came = e[3] == Due.PLACE ? 0 : e[3];
            StringBuilder want = new StringBuilder("??????");
            for (int k = 0; k < came; k++) {
                want.setCharAt(e[1] + k, '1');
            }
            same(call, seen(x, 2, 6), want.toString());
            same(call + " leaves what it is from", seen(x, 0, 4), "1111");
        }
    }

    private static void copyThatWrapsAround() {
        AllSworn x = new AllSworn();
        x.row(0, 0, 40);
        x.row(1, 0, 40);
        int[][] wrong = {{MOST, 0, 1}, {0, MOST, 1}, {0, 0, MOST}, {1, 0, MOST}, {0, 1, MOST}, {MOST, MOST, MOST},
            {MOST, 0, MOST}, {0, MOST, MOST}, {MOST, MOST, 2}, {MOST - 1, 0, 3}, {LEAST, 0, 1}, {0, LEAST, 1},
            {0, 0, LEAST}, {LEAST, LEAST, LEAST}, {LEAST, 0, MOST}, {MOST, 0, LEAST}, {40, 40, LEAST}, {1, 1, LEAST},
            {MOST, 0, 0}, {0, MOST, 0}, {LEAST, 0, 0}, {0, LEAST, 0}};
        for (int[] w : wrong) {
            due.is("copy " + w[0] + ", " + w[1] + ", " + w[2], x.copy(0, w[0], 1, w[1], w[2]), Due.PLACE);
            due.is("onto itself " + w[0] + ", " + w[1] + ", " + w[2], x.copy(0, w[0], 0, w[1], w[2]), Due.PLACE);
        }
    }

    /** "n ITEMS of a from i on come to b from j on, as they were ahead". */
    private static void copyAsTheyWereAhead() {
        AllSworn x = seer();
        for (int lane = 0; lane <= 2; lane++) {
            laid(x, 0, lane, "10?01");
            due.is("up by one", x.copy(0, 0, 0, 1, 4), 4);
            same("up by one", seen(x, 0, 5), "110?0");
            laid(x, 0, lane, "10?01");
            due.is("down by one", x.copy(0, 1, 0, 0, 4), 4);
            same("down by one", seen(x, 0, 5), "0?011");
            laid(x, 0, lane, "10?01");
            due.is("up by three", x.copy(0, 0, 0, 3, 2), 2);
            same("up by three", seen(x, 0, 5), "10?10");
            due.is("onto its own place", x.copy(0, 0, 0, 0, 5), 5);
            same("onto its own place", seen(x, 0, 5), "10?10");
        }
    }

    private static void copyOfNoneAndOfAll() {
        AllSworn x = seer();
        String all = "10?1".repeat(10);
        laid(x, 0, 2, all);
        x.row(1, 2, 40);
        due.is("none, from the end to the end", x.copy(0, 40, 1, 40, 0), 0);
        same("none came", seen(x, 1, 40), "0".repeat(40));
        due.is("all 40", x.copy(0, 0, 1, 0, 40), 40);
        same("all came", seen(x, 1, 40), all);
        due.is("41", x.copy(0, 0, 1, 0, 41), Due.PLACE);
        x.row(2, 2, 0);
        due.is("none of none", x.copy(2, 0, 2, 0, 0), 0);
        due.is("one of none", x.copy(2, 0, 1, 0, 1), Due.PLACE);
        due.is("one to none", x.copy(1, 0, 2, 0, 1), Due.PLACE);
    }

    /** copy: "BAD: ROWS; NULL; STORE; PLACE", the first of these that fits. */
    private static void copyInOrder() {
        AllSworn x = new AllSworn();
        x.row(0, 0, 4);
        x.row(1, 1, 4);
        due.is("BAD ahead of NULL", x.copy(8, -1, 2, -1, -1), Due.BAD);
        due.is("BAD ahead of NULL, to", x.copy(2, -1, -1, -1, -1), Due.BAD);
        due.is("NULL ahead of PLACE, from", x.copy(2, -1, 0, -1, -1), Due.NULL);
        due.is("NULL ahead of PLACE, to", x.copy(0, -1, 2, -1, -1), Due.NULL);
        due.is("STORE ahead of PLACE", x.copy(0, -1, 1, -1, -1), Due.STORE);
        due.is("STORE for none", x.copy(1, 0, 0, 0, 0), Due.STORE);
        due.is("PLACE last", x.copy(0, -1, 0, 0, 0), Due.PLACE);
        due.is("the status is of the last", x.status(), 2);
    }

    /** "A ROW is missing from now on: how many ITEMS it had. BAD; NULL." */
    private static void droppedOnce() {
        AllSworn x = seer();
        for (int n : new int[] {0, 1, 39, 40}) {
            x.row(6, 1, n);
            x.row(7, 1, 2);
            due.is("drop of " + n, x.drop(6), n);
            due.is("drop again", x.drop(6), Due.NULL);
            due.is("set", x.set(6, 0, 0), Due.NULL);
            due.is("copy from it", x.copy(6, 0, 7, 0, 0), Due.NULL);
            due.is("copy to it", x.copy(7, 0, 6, 0, 0), Due.NULL);
            due.is("hitBy", x.hitBy(6, 0, 1), Due.NULL);
            due.is("another stays", x.drop(7), 2);
        }
    }

    /** count(0): ROWS that are not missing, an empty one among them. */
    private static void rowsCounted() {
        AllSworn x = new AllSworn();
        for (int row = 0; row < 8; row++) {
            due.is("ROWS", x.count(0), row);
            x.row(row, row % 3, 0);
        }
        due.is("all", x.count(0), 8);
        x.row(3, 0, 40);
        x.row(8, 0, 1);
        x.row(2, 0, -1);
        due.is("all still", x.count(0), 8);
        for (int row = 7; row >= 0; row--) {
            x.drop(row);
            x.drop(row);
            due.is("one less", x.count(0), row);
        }
    }

    /** status: "the number of its FINDING; 0: it had none, or there was none". */
    private static void statusOfEach() {
        AllSworn x = seer();
        due.is("there was none", x.status(), 0);
        x.row(0, 0, 4);
        x.row(1, 1, 4);
        int[][] found = {{x.drop(2), 1, x.status()}, {x.set(2, 0, 0), 1, x.status()}, {x.hitBy(2, 0, 1), 1, x.status()},
            {x.copy(2, 0, 0, 0, 0), 1, x.status()}, {x.set(0, 4, 0), 2, x.status()}, {x.hitBy(0, 4, 1), 2, x.status()},
            {x.copy(0, 0, 0, 4, 1), 2, x.status()}, {x.as(0, 2), 3, x.status()}, {x.row(0, 0, -1), 4, x.status()},
            {x.copy(0, 0, 1, 0, 0), 5, x.status()}};
        for (int[] f : found) {
            due.is("FINDING " + f[1], f[0], -1000010 - f[1]);
            due.is("its status()", f[2], f[1]);
        }
    }

    /** "Of the latest call with a ROW, or as(), that was not BAD, STATE, FULL". */
    private static void statusOfTheLatest() {
        AllSworn x = seer();
        x.row(0, 0, 4);
        x.set(0, 1, 2);
        String[] names = {"row", "set", "copy", "drop", "hitBy", "as"};
        for (int k = 0; k < names.length; k++) {
            x.row(1, 1, 4);
            x.copy(0, 0, 1, 0, 0);
            int[] bad = {x.row(8, 0, 0), x.set(8, 0, 0), x.copy(0, 0, 8, 0, 0), x.drop(8), x.hitBy(0, 0, 13),
                x.as(1, 0), x.as(0, 6), x.hitBy(0, 1, 1), x.row(1, 3, 0), x.row(1, 0, 41)};
            for (int answer : bad) {
                due.is("BAD", answer, Due.BAD);
            }
            due.is("BAD leaves STORE", x.status(), 5);
            int[] good = {k == 0 ? x.row(1, 1, 4) : 0, k == 1 ? x.set(1, 3, 0) : 0, k == 2 ? x.copy(1, 0, 1, 0, 4) : 0,
                k == 3 ? x.drop(1) : 0, k == 4 ? x.hitBy(0, 0, 1) : 0, k == 5 ? x.as(0, 1) : 0};
            due.holds(names[k] + " is taken", good[k] >= 0);
            due.is(names[k] + " had none", x.status(), 0);
        }
        AllSworn y = new AllSworn();
        y.set(0, 0, 0);
        due.is("STATE", y.hitBy(0, 0, 1), Due.STATE);
        due.is("STATE leaves it", y.status(), 1);
    }
}
