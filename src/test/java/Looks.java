import java.util.ArrayList;
import java.util.List;

/**
 * All that calls can tell of an object behind a run, but its status().
 * Each look plays the run anew, for some of them can be had only by changing what is looked at.
 */
final class Looks {
    private final List<Integer> seen = new ArrayList<>();

    private Looks() { }

    static List<Integer> at(Run run) {
        Looks looks = new Looks();
        looks.atRealm(run.play());
        looks.atActs(run.play());
        looks.atImages(run.play());
        looks.atTape(run.play());
        looks.atRows(run.play(), 0);
        looks.atRows(run.play(), 4);
        return looks.seen;
    }

    private int ask(Run.Live x, String name, int... arguments) {
        int answer = x.call(name, arguments);
        seen.add(answer);
        return answer;
    }

    private void atRealm(Run.Live x) {
        ask(x, "fault");
        ask(x, "count", 0);
        ask(x, "count", 7);
        for (int i = 0; i < 16; i++) {
            ask(x, "trace", i);
        }
        atTold(x);
        ask(x, "gap");
        ask(x, "terms");
        for (int what = 0; what < 2; what++) {
            ask(x, "cover", what);
            ask(x, "enough", what);
        }
        for (int what = -2; what < 4; what++) {
            ask(x, "round", what);
        }
        int day = x.call("count", 3);
        for (int later = 0; later <= 41; later++) {
            ask(x, "open", day + later);
        }
    }

    private void atTold(Run.Live x) {
        for (int what = 1; what <= 6; what++) {
            ask(x, "count", what);
        }
        for (int t = 0; t < 8; t++) {
            ask(x, "kind", t);
            for (int what = 0; what < 5; what++) {
                ask(x, "thing", t, what);
            }
        }
        for (int h = 0; h < 8; h++) {
            for (int what = 0; what < 3; what++) {
                ask(x, "harm", h, what);
            }
        }
    }

    private void atActs(Run.Live x) {
        while (ask(x, "undo") >= 0) {
            ask(x, "count", 3);
            ask(x, "count", 4);
            for (int t = 0; t < 8; t++) {
                ask(x, "thing", t, 2);
            }
        }
    }

    private void atImages(Run.Live x) {
        for (int k = 0; k < 2; k++) {
            ask(x, "restore", k);
            atTold(x);
        }
    }

    private void atTape(Run.Live x) {
        ask(x, "realm");
        ask(x, "fault");
        atTold(x);
    }

    /** An ITEM is told by hitBy alone, as 0, 1 or neither; a LANE by what it leaves of a number. */
    private void atRows(Run.Live x, int first) {
        x.call("realm");
        for (char letter : "b1;p0,0;h1;".toCharArray()) {
            x.call("feed", letter);
        }
        x.call("realm");
        for (int row = first; row < first + 4; row++) {
            int i = 0;
            while (ask(x, "hitBy", row, i, 1) > -1000010) {
                i++;
            }
            ask(x, "set", row, i - 1, 70000);
            for (int other = 0; other < 8; other++) {
                ask(x, "copy", row, 0, other, 0, 0);
            }
            ask(x, "drop", row);
        }
    }
}
