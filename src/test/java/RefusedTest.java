import java.util.List;
import java.util.Set;

/**
 * "Refusals are answers, the first of these that fits, but as told"; "What is refused, or found, changes nothing but
 * status()": every call of the face, with what lies on both sides of each bound, in states of many sorts. What only
 * tells, or foretells, is looked at in the same way.
 */
public final class RefusedTest {
    private static final Due due = new Due("RefusedTest");
    private static final int MOST = Integer.MAX_VALUE, LEAST = Integer.MIN_VALUE, TAKEN = 1;

    private static final int[] ROWS = {LEAST, -1, 0, 1, 2, 3, 4, 5, 6, 7, 8, MOST};
    private static final int[] PLACES = {LEAST, -1, 0, 1, 3, 4, 5, 12, 39, 40, MOST};
    private static final int[] NUMBERS = {LEAST, -2, -1, 0, 1, 2, 3, 4, 5, 6, 7, 8, MOST};
    private static final int[] WHATS = {LEAST, -3, -2, -1, 0, 1, 2, 3, 4, 5, 6, 7, 8, MOST};
    private static final int[] ANY = {LEAST, -1, 0, 1, MOST};

    private static final Set<String> TELLING = Set.of("fault", "thing", "harm", "open", "gap", "cover", "round",
        "cheapest", "defended", "enough", "odds", "hitBy", "terms", "kind", "as", "trace", "count", "status");
    private static final Set<String> WITH_ROW_OR_AS = Set.of("row", "set", "copy", "drop", "hitBy", "as");

    /** What a run leaves, as far as refusals ask for it: rows are null if missing, daysToAsk has one for each THING. */
    private static final class Scene {
        final String name;
        final Run run;
        boolean isTold = true;
        int day = 0;
        int[] daysToAsk = {};
        String sorts = "";
        int harms = 0;
        int acts = 0;
        int tape = 0;
        int status = 0;
        boolean[] kept = {false, false};
        int[] lanes = new int[8];
        int[][] rows = new int[8][];

        Scene(String name, Run run) {
            this.name = name;
            this.run = run;
        }
    }

    private static Scene scene;
    private static List<Integer> before;
    private static int refused = 0;

    public static void main(String[] args) {
        Scene[] scenes = {bare(), rowsAlone(), amid(), near(995), near(996), near(999), emptyRealm(), crowded()};
        for (Scene each : scenes) {
            scene = each;
            before = Looks.at(each.run);
            rows();
            realmsAndActs();
            foretold();
            asked();
        }
        due.holds("many calls were refused", refused > 5000);
        due.end();
    }

    private static Scene bare() {
        Scene s = new Scene("bare", new Run());
        s.isTold = false;
        return s;
    }

    private static Run rowsOf(Run run) {
        return run.then("row", 0, 0, 4).then("row", 1, 1, 12).then("row", 2, 2, 40).then("row", 3, 0, 0)
            .then("row", 4, 0, 40).then("row", 6, 2, 1)
            .then("set", 1, 3, 1).then("set", 1, 5, 2).then("set", 2, 39, -1).then("set", 6, 0, 1)
            .then("set", 0, 0, 1).then("set", 0, 3, 1);
    }

    private static void rowsOf(Scene s) {
        s.rows = new int[][] {{1, 0, 0, 1}, new int[12], new int[40], {}, new int[40], null, {1}, null};
        s.lanes = new int[] {0, 1, 2, 0, 0, -1, 2, -1};
        s.rows[1][3] = 1;
        s.rows[1][5] = 2;
        s.rows[2][39] = -1;
    }

    private static Scene rowsAlone() {
        Scene s = new Scene("rows alone", rowsOf(new Run()).fed("b7;y3,4;h1;").then("copy", 0, 0, 1, 0, 0));
        rowsOf(s);
        s.isTold = false;
        s.tape = 11;
        s.status = 5;
        return s;
    }

    private static Scene amid() {
        Run told = rowsOf(new Run()).told("b41;").told("b12;p2,5;m1,7;y0,3;f1,9;l2,2;p3,20;h3;h12;h20;h34;h40;");
        Run lived = told.then("askFor", 0).then("image", 0).then("waits", 7).then("askFor", 1).then("tries", 4);
        Scene s = new Scene("amid", lived.then("ask", 1, 0).then("set", 0, 4, 0).fed("b7;y3,4;h1;"));
        rowsOf(s);
        s.day = 13;
        s.daysToAsk = new int[] {4, 2, 1, 4, 8, 6};
        s.sorts = "pmyflp";
        s.harms = 5;
        s.acts = 4;
        s.tape = 11;
        s.status = 2;
        s.kept[0] = true;
        return s;
    }

    private static Scene near(int day) {
        Run told = new Run().told("b40;p0,1;p1,2;f1,3;l9,4;h1;h3;").then("image", 0).then("askFor", 0);
        Run late = told.waited(day - 2).then("askFor", 0).then("image", 1).then("as", 0, 5);
        Scene s = new Scene("near " + day, late);
        s.day = day;
        s.daysToAsk = new int[] {1, 2, 4, 36};
        s.sorts = "ppfl";
        s.harms = 2;
        s.acts = 2 + (day - 2 + 59) / 60;
        s.status = 3;
        s.kept = new boolean[] {true, true};
        return s;
    }

    private static Scene emptyRealm() {
        Scene s = new Scene("empty realm", new Run().told("b40;").then("image", 1).then("waits", 5).then("row", 0, 0, -1));
        s.day = 5;
        s.acts = 1;
        s.status = 4;
        s.kept[1] = true;
        return s;
    }

    private static Scene crowded() {
        Run run = new Run().told("b1;p0,0;m0,0;p0,0;m0,0;p0,0;m0,0;p0,0;m0,0;h1;h2;h4;h8;h16;h32;h64;h128;");
        for (int i = 0; i < 25; i++) {
            run = i % 3 == 0 ? run.then("askFor", i % 8) : run.then("tries", i % 8);
        }
        Scene s = new Scene("crowded", run.then("drop", 7).fed("b".repeat(120)));
        s.day = 9;
        s.daysToAsk = new int[] {1, 1, 1, 1, 1, 1, 1, 1};
        s.sorts = "pmpmpmpm";
        s.harms = 8;
        s.acts = 24;
        s.tape = 120;
        s.status = 1;
        return s;
    }

    private static void rows() {
        for (int row : ROWS) {
            for (int lane : new int[] {LEAST, -1, 0, 1, 2, 3, MOST}) {
                for (int n : new int[] {LEAST, -1, 0, 1, 40, 41, MOST}) {
                    boolean bad = !in(row, 0, 7) || !in(lane, 0, 2) || n > 40;
                    check(bad ? Due.BAD : n < 0 ? Due.SIZE : TAKEN, "row", row, lane, n);
                }
            }
            for (int i : PLACES) {
                for (int v : new int[] {LEAST, 0, MOST}) {
                    check(placed(row, i, 1), "set", row, i, v);
                }
            }
            check(placed(row, 0, 0), "drop", row);
        }
        for (int a : new int[] {LEAST, -1, 0, 1, 2, 5, 8}) {
            for (int b : new int[] {-1, 0, 4, 6, 7, 8, MOST}) {
                copies(a, b);
            }
        }
    }

    private static void copies(int a, int b) {
        boolean isBare = scene.rows[0] == null;
        int[] places = {0, 4, -1, 1, 3, LEAST, MOST};
        int[] lengths = {0, 1, -1, 4, 5, LEAST, MOST};
        for (int i = 0; i < (isBare ? 2 : 7); i++) {
            for (int j = 0; j < (isBare ? 2 : 7); j++) {
                for (int n = 0; n < (isBare ? 2 : 7); n++) {
                    int want = copied(a, places[i], b, places[j], lengths[n]);
                    check(want, "copy", a, places[i], b, places[j], lengths[n]);
                }
            }
        }
    }

    private static boolean in(int number, int least, int most) {
        return number >= least && number <= most;
    }

    private static int placed(int row, int i, int n) {
        if (!in(row, 0, 7)) {
            return Due.BAD;
        }
        if (scene.rows[row] == null) {
            return Due.NULL;
        }
        return i < 0 || n < 0 || (long) i + n > scene.rows[row].length ? Due.PLACE : TAKEN;
    }

    private static int copied(int a, int i, int b, int j, int n) {
        int from = placed(a, i, n);
        int to = placed(b, j, n);
        for (int first : new int[] {Due.BAD, Due.NULL}) {
            if (from == first || to == first) {
                return first;
            }
        }
        return scene.lanes[a] != scene.lanes[b] ? Due.STORE : Math.min(from, to);
    }

    private static void realmsAndActs() {
        for (int letter : new int[] {LEAST, -1, 0, 255, 256, MOST}) {
            check(!in(letter, 0, 255) ? Due.BAD : scene.tape == 120 ? Due.FULL : TAKEN, "feed", letter);
        }
        check(TAKEN, "fault");
        for (int n : NUMBERS) {
            boolean beyond = isThing(n) && scene.day + scene.daysToAsk[n] > 999;
            check(!isThing(n) ? Due.BAD : beyond ? Due.FULL : TAKEN, "askFor", n);
            check(isHarm(n) ? TAKEN : Due.BAD, "tries", n);
            for (int what : WHATS) {
                check(isThing(n) && in(what, 0, 4) ? TAKEN : Due.BAD, "thing", n, what);
                check(isHarm(n) && in(what, 0, 2) ? TAKEN : Due.BAD, "harm", n, what);
            }
        }
        for (int n : new int[] {LEAST, -1, 0, 1, 2, 3, 4, 5, 60, 61, MOST}) {
            check(!scene.isTold ? Due.STATE : !in(n, 1, 60) ? Due.BAD : scene.day + n > 999 ? Due.FULL : TAKEN, "waits", n);
        }
        check(scene.acts == 0 ? Due.STATE : TAKEN, "undo");
        for (int day : days()) {
            check(foretold(isAhead(day)), "open", day);
        }
    }

    private static boolean isThing(int n) {
        return in(n, 0, scene.daysToAsk.length - 1);
    }

    private static boolean isHarm(int n) {
        return in(n, 0, scene.harms - 1);
    }

    private static int[] days() {
        int day = scene.day;
        return new int[] {LEAST, LEAST + 100, -1, day - 1, day, day + 1, day + 99, day + 100, day + 101, MOST - 100, MOST};
    }

    private static boolean isAhead(int day) {
        return in(day, scene.day, scene.day + 100);
    }

    private static int foretold(boolean isGood) {
        return !scene.isTold ? Due.STATE : isGood ? TAKEN : Due.BAD;
    }

    private static void foretold() {
        check(foretold(true), "gap");
        check(foretold(true), "terms");
        for (int what : WHATS) {
            check(foretold(in(what, 0, 1)), "cover", what);
            check(foretold(in(what, -2, 3)), "round", what);
            check(foretold(in(what, 0, 1)), "enough", what);
            for (int day : days()) {
                check(foretold(isAhead(day) && in(what, 0, 1)), "cheapest", day, what);
                check(foretold(isAhead(day) && in(what, 0, 1)), "defended", day, what);
            }
        }
        for (int n : NUMBERS) {
            for (int c : new int[] {LEAST, -1, 0, 1, 10, 11, MOST}) {
                for (int what : ANY) {
                    check(isHarm(n) && in(c, 0, 10) && in(what, 0, 1) ? TAKEN : Due.BAD, "odds", n, c, what);
                }
            }
        }
        for (int row : ROWS) {
            for (int i : PLACES) {
                for (int n : new int[] {LEAST, -1, 0, 1, 2, 4, 5, 12, 13, MOST}) {
                    check(hit(row, i, n), "hitBy", row, i, n);
                }
            }
        }
    }

    private static int hit(int row, int i, int n) {
        if (!scene.isTold) {
            return Due.STATE;
        }
        int place = !in(n, 1, 12) ? Due.BAD : placed(row, i, n);
        for (int k = 0; place == TAKEN && k < n; k++) {
            if (!in(scene.rows[row][i + k], 0, 1)) {
                place = Due.BAD;
            }
        }
        return place;
    }

    private static void asked() {
        for (int k : NUMBERS) {
            check(!in(k, 0, 1) ? Due.BAD : !scene.isTold ? Due.STATE : TAKEN, "image", k);
            check(!in(k, 0, 1) ? Due.BAD : !scene.kept[k] ? Due.STATE : TAKEN, "restore", k);
            check(isThing(k) ? TAKEN : Due.BAD, "kind", k);
            for (int kind : WHATS) {
                boolean good = isThing(k) && in(kind, 0, 5);
                check(!good ? Due.BAD : isOf(scene.sorts.charAt(k), kind) ? TAKEN : Due.KIND, "as", k, kind);
                check(isThing(k) && in(kind, 0, 1) ? TAKEN : Due.BAD, "ask", k, kind);
            }
        }
        for (int i : WHATS) {
            check(TAKEN, "trace", i);
            check(in(i, 0, 7) ? TAKEN : Due.BAD, "count", i);
        }
        check(TAKEN, "status");
    }

    private static boolean isOf(char sort, int kind) {
        String[] are = {"pmyfl", "pmy", "m", "y", "fl", "l"};
        return are[kind].indexOf(sort) >= 0;
    }

    private static void check(int want, String name, int... arguments) {
        StringBuilder call = new StringBuilder(scene.name).append(": ").append(name);
        for (int a : arguments) {
            call.append(' ').append(a);
        }
        Run.Live x = scene.run.play();
        int answer = x.call(name, arguments);
        boolean isRefused = answer <= Due.BAD && answer >= Due.STORE;
        due.is(call.toString(), isRefused ? answer : TAKEN, want);
        boolean isFound = want <= Due.NULL;
        int cleared = want == TAKEN && WITH_ROW_OR_AS.contains(name) ? 0 : scene.status;
        due.is(call + ", status() then", x.call("status"), isFound ? -1000010 - want : cleared);
        if (want != TAKEN || TELLING.contains(name)) {
            refused += want == TAKEN ? 0 : 1;
            due.holds(call + " changes nothing", Looks.at(scene.run.then(name, arguments)).equals(before));
        }
    }
}
