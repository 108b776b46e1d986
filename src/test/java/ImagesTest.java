/** Promises 25 and 26: image, restore. */
public final class ImagesTest {
    private static final Due due = new Due("ImagesTest");

    public static void main(String[] args) {
        refusals();
        restored();
        imagesStay();
        otherThingsStay();
        due.end();
    }

    private static void refusals() {
        AllSworn x = new AllSworn();
        for (int k : new int[] {-1, 2, Integer.MAX_VALUE, Integer.MIN_VALUE}) {
            due.is("image(" + k + ")", x.image(k), Due.BAD);
            due.is("restore(" + k + ")", x.restore(k), Due.BAD);
        }
        due.is("image(0) without a REALM", x.image(0), Due.STATE);
        due.is("restore(0) of none", x.restore(0), Due.STATE);
        Due.feed(x, "b2;");
        x.realm();
        due.is("restore(1) of none", x.restore(1), Due.STATE);
        due.is("image(1)", x.image(1), 1);
        due.is("restore(1)", x.restore(1), 1);
        due.is("restore(0) of none yet", x.restore(0), Due.STATE);
    }

    private static void restored() {
        AllSworn x = Due.told("b9;p1,5;y0,2;h1;h2;");
        x.askFor(0);
        x.tries(1);
        due.is("image(0)", x.image(0), 1);
        due.is("an IMAGE leaves the ACTS", x.count(6), 2);
        x.waits(20);
        x.askFor(1);
        x.askFor(0);
        x.tries(1);
        due.is("restore(0)", x.restore(0), 1);
        due.is("the DAY", x.count(3), 2);
        due.is("hits", x.count(4), 1);
        due.is("ACTS", x.count(6), 0);
        due.is("undo()", x.undo(), Due.STATE);
        due.is("oath 0", x.thing(0, 2), 2);
        due.is("oath 1", x.thing(1, 2), Due.NONE);
        x.waits(3);
        due.is("ACTS anew", x.undo(), 0);
        due.is("the DAY then", x.count(3), 2);
    }

    private static void imagesStay() {
        AllSworn x = Due.told("b9;p1,5;h1;");
        x.image(0);
        x.askFor(0);
        x.image(1);
        Due.feed(x, "b7;f1,6;l2,2;h3;h2;");
        x.realm();
        x.waits(5);
        due.is("restore(1)", x.restore(1), 1);
        due.is("TERM", x.count(5), 9);
        due.is("THINGS", x.count(1), 1);
        due.is("HARMS", x.count(2), 1);
        due.is("kind(0)", x.kind(0), 1);
        due.is("harm(0, 0)", x.harm(0, 0), 1);
        due.is("oath", x.thing(0, 2), 2);
        x.askFor(0);
        due.is("restore(1) again", x.restore(1), 1);
        due.is("oath again", x.thing(0, 2), 2);
        due.is("restore(0)", x.restore(0), 1);
        due.is("no oath", x.thing(0, 2), Due.NONE);
        due.is("DAY 0", x.count(3), 0);
        x.waits(1);
        x.image(0);
        x.waits(1);
        x.restore(0);
        due.is("an IMAGE in place of the one before", x.count(3), 1);
    }

    private static void otherThingsStay() {
        AllSworn x = Due.told("b9;p1,5;h1;");
        x.image(0);
        x.row(3, 1, 4);
        x.set(3, 4, 0);
        Due.feed(x, "b");
        x.ask(0, 1);
        x.restore(0);
        due.is("ROWS", x.count(0), 1);
        due.is("status()", x.status(), 2);
        due.is("the tape", x.count(7), 1);
        due.is("THE TRACE", x.trace(0), 21);
    }
}
