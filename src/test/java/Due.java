/** What the tests share: answers that are due, and texts that are fed. */
final class Due {
    static final int NONE = -1000000, BAD = -1000001, STATE = -1000002, FULL = -1000003;
    static final int NULL = -1000011, PLACE = -1000012, KIND = -1000013, SIZE = -1000014, STORE = -1000015;
    static final int FAULTS = -1000100;

    private final String test;
    private int asked = 0;
    private int wrong = 0;

    Due(String test) {
        this.test = test;
    }

    void is(String call, long got, long want) {
        asked++;
        if (got != want) {
            wrong++;
            System.out.println(test + ": " + call + " answered " + got + ", due is " + want);
        }
    }

    void holds(String what, boolean so) {
        is(what, so ? 1 : 0, 1);
    }

    void end() {
        System.out.println(test + ": " + asked + " answers, " + wrong + " not as due");
        if (wrong != 0) {
            System.exit(1);
        }
    }

    static void feed(AllSworn x, String text) {
        for (int i = 0; i < text.length(); i++) {
            x.feed(text.charAt(i));
        }
    }

    static AllSworn told(String text) {
        AllSworn x = new AllSworn();
        feed(x, text);
        int things = x.realm();
        if (things < 0) {
            throw new IllegalStateException("the test's own text has a fault: " + text + " " + things);
        }
        return x;
    }

    static void days(AllSworn x, int day) {
        while (x.count(3) < day) {
            x.waits(Math.min(60, day - x.count(3)));
        }
    }
}
