/** Promises 1 to 5 and 32: a new object, row, set, copy, drop, status. */
public final class RowsTest {
    private static final Due due = new Due("RowsTest");
    private static final int MOST = Integer.MAX_VALUE, LEAST = Integer.MIN_VALUE;

    public static void main(String[] args) {
        newObject();
        row();
        set();
        copy();
        copyOverlaps();
        drop();
        status();
        due.end();
    }

    private static void newObject() {
        AllSworn x = new AllSworn();
        for (int what = 0; what <= 7; what++) {
            due.is("new count(" + what + ")", x.count(what), 0);
        }
        due.is("new status()", x.status(), 0);
        due.is("new fault()", x.fault(), 0);
        due.is("new trace(0)", x.trace(0), Due.NONE);
        due.is("new gap()", x.gap(), Due.STATE);
        due.is("new undo()", x.undo(), Due.STATE);
        due.is("new kind(0)", x.kind(0), Due.BAD);
        for (int row = 0; row < 8; row++) {
            due.is("new drop(" + row + ")", x.drop(row), Due.NULL);
        }
    }

    private static void row() {
        AllSworn x = new AllSworn();
        due.is("row(0, 0, 0)", x.row(0, 0, 0), 0);
        due.is("row(7, 2, 40)", x.row(7, 2, 40), 40);
        due.is("count(0)", x.count(0), 2);
        due.is("row(8, 0, 1)", x.row(8, 0, 1), Due.BAD);
        due.is("row(-1, 0, 1)", x.row(-1, 0, 1), Due.BAD);
        due.is("row(0, 3, 1)", x.row(0, 3, 1), Due.BAD);
        due.is("row(0, -1, 1)", x.row(0, -1, 1), Due.BAD);
        due.is("row(0, 0, 41)", x.row(0, 0, 41), Due.BAD);
        due.is("row(8, 0, -1)", x.row(8, 0, -1), Due.BAD);
        due.is("row(0, 3, -1)", x.row(0, 3, -1), Due.BAD);
        due.is("row(7, 0, -1)", x.row(7, 0, -1), Due.SIZE);
        due.is("row(7, 0, LEAST)", x.row(7, 0, LEAST), Due.SIZE);
        due.is("row 7 is as it was", x.set(7, 39, 100000), 100000);
        due.is("row(7, 1, 3) in place of it", x.row(7, 1, 3), 3);
        due.is("count(0) then", x.count(0), 2);
        due.is("set(7, 3, 1)", x.set(7, 3, 1), Due.PLACE);
        x.set(7, 2, 1);
        x.row(7, 1, 3);
        due.is("items are 0 at first", hits(x, 7, 2), 0);
    }

    /** An ITEM can be read by hitBy alone: a REALM without HARMS takes 0 and 1 as items, and answers 0; else BAD. */
    private static int hits(AllSworn x, int row, int i) {
        Due.feed(x, "b1;p0,0;h1;");
        x.realm();
        int answer = x.hitBy(row, i, 1);
        return answer == 1 ? 1 : answer == 0 ? 0 : 2;
    }

    private static void set() {
        AllSworn x = new AllSworn();
        for (int lane = 0; lane <= 2; lane++) {
            x.row(lane, lane, 4);
        }
        int[] values = {0, 1, -1, 127, 128, 200, 255, 256, -128, -129, 32767, 32768, 65535, 65536, 70000, MOST, LEAST};
        for (int v : values) {
            due.is("bytes " + v, x.set(0, 0, v), (byte) v);
            due.is("shorts " + v, x.set(1, 3, v), (short) v);
            due.is("ints " + v, x.set(2, 1, v), v);
        }
        due.is("set(8, 0, 0)", x.set(8, 0, 0), Due.BAD);
        due.is("set(-1, 0, 0)", x.set(-1, 0, 0), Due.BAD);
        due.is("set(3, 9, 0)", x.set(3, 9, 0), Due.NULL);
        due.is("set(0, -1, 0)", x.set(0, -1, 0), Due.PLACE);
        due.is("set(0, 4, 0)", x.set(0, 4, 0), Due.PLACE);
        due.is("set(0, MOST, 0)", x.set(0, MOST, 0), Due.PLACE);
        due.is("set(0, LEAST, 0)", x.set(0, LEAST, 0), Due.PLACE);
    }

    private static void copy() {
        AllSworn x = new AllSworn();
        x.row(0, 0, 4);
        x.row(1, 1, 4);
        x.row(2, 0, 6);
        due.is("copy(8, 0, 0, 0, 0)", x.copy(8, 0, 0, 0, 0), Due.BAD);
        due.is("copy(0, 0, 8, 0, 0)", x.copy(0, 0, 8, 0, 0), Due.BAD);
        due.is("copy(-1, 0, 0, 0, 0)", x.copy(-1, 0, 0, 0, 0), Due.BAD);
        due.is("copy(0, 0, -1, 0, 0)", x.copy(0, 0, -1, 0, 0), Due.BAD);
        due.is("copy(3, 9, 1, 0, 0)", x.copy(3, 9, 1, 0, 0), Due.NULL);
        due.is("copy(1, 9, 3, 0, 0)", x.copy(1, 9, 3, 0, 0), Due.NULL);
        due.is("copy(0, 9, 1, 0, 0)", x.copy(0, 9, 1, 0, 0), Due.STORE);
        due.is("copy(0, 0, 1, 0, 0)", x.copy(0, 0, 1, 0, 0), Due.STORE);
        int[][] wrong = {{-1, 0, 1}, {0, -1, 1}, {0, 0, -1}, {4, 0, 1}, {0, 6, 1}, {5, 0, 0}, {0, 7, 0}, {0, 0, 5},
            {1, 0, MOST}, {MOST, 0, MOST}, {MOST, MOST, 1}, {LEAST, 0, 1}, {0, 0, LEAST}, {2, 0, 3}, {0, 5, 2}};
        for (int[] w : wrong) {
            due.is("copy(0, " + w[0] + ", 2, " + w[1] + ", " + w[2] + ")", x.copy(0, w[0], 2, w[1], w[2]), Due.PLACE);
        }
        due.is("copy(0, 4, 2, 6, 0)", x.copy(0, 4, 2, 6, 0), 0);
        due.is("copy(0, 0, 2, 2, 4)", x.copy(0, 0, 2, 2, 4), 4);
        x.set(0, 2, 1);
        due.is("copy(0, 2, 2, 5, 1)", x.copy(0, 2, 2, 5, 1), 1);
        due.is("it came", hits(x, 2, 5), 1);
        due.is("beside it nothing came", hits(x, 2, 4), 0);
    }

    private static void copyOverlaps() {
        AllSworn x = new AllSworn();
        x.row(0, 2, 4);
        x.set(0, 0, 1);
        x.copy(0, 0, 0, 1, 3);
        int[] up = {1, 1, 0, 0};
        for (int i = 0; i < 4; i++) {
            due.is("up, item " + i, hits(x, 0, i), up[i]);
        }
        x.set(0, 1, 0);
        x.set(0, 0, 0);
        x.set(0, 3, 1);
        x.copy(0, 1, 0, 0, 3);
        int[] down = {0, 0, 1, 1};
        for (int i = 0; i < 4; i++) {
            due.is("down, item " + i, hits(x, 0, i), down[i]);
        }
    }

    private static void drop() {
        AllSworn x = new AllSworn();
        x.row(3, 0, 0);
        x.row(4, 1, 17);
        due.is("drop(4)", x.drop(4), 17);
        due.is("drop(4) again", x.drop(4), Due.NULL);
        due.is("drop(3)", x.drop(3), 0);
        due.is("drop(8)", x.drop(8), Due.BAD);
        due.is("drop(-1)", x.drop(-1), Due.BAD);
        due.is("count(0)", x.count(0), 0);
    }

    private static void status() {
        AllSworn x = new AllSworn();
        x.row(0, 0, -1);
        due.is("SIZE", x.status(), 4);
        x.row(9, 0, -1);
        due.is("BAD leaves it", x.status(), 4);
        x.drop(0);
        due.is("NULL", x.status(), 1);
        x.row(0, 0, 3);
        due.is("none by row", x.status(), 0);
        x.set(0, 3, 0);
        due.is("PLACE", x.status(), 2);
        x.set(0, 2, 0);
        due.is("none by set", x.status(), 0);
        x.row(1, 1, 3);
        x.copy(0, 0, 1, 0, 1);
        due.is("STORE", x.status(), 5);
        x.hitBy(0, 9, 1);
        due.is("STATE leaves it", x.status(), 5);
        x.copy(0, 0, 0, 0, 1);
        due.is("none by copy", x.status(), 0);
        x.set(2, 0, 0);
        x.drop(1);
        due.is("none by drop", x.status(), 0);
        Due.feed(x, "b1;p0,0;h1;");
        x.realm();
        x.as(0, 2);
        due.is("KIND", x.status(), 3);
        x.as(0, 6);
        x.ask(0, 0);
        x.feed(300);
        x.kind(7);
        due.is("other calls leave it", x.status(), 3);
        x.as(0, 1);
        due.is("none by as", x.status(), 0);
        x.hitBy(0, 3, 1);
        due.is("PLACE by hitBy", x.status(), 2);
        x.set(0, 0, 2);
        x.as(0, 5);
        due.is("BAD item", x.hitBy(0, 0, 1), Due.BAD);
        due.is("BAD item leaves it", x.status(), 3);
        x.hitBy(0, 1, 1);
        due.is("none by hitBy", x.status(), 0);
        x.hitBy(5, 0, 1);
        due.is("NULL by hitBy", x.status(), 1);
    }
}
