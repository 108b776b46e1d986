import java.util.ArrayList;
import java.util.Arrays;
import java.util.List;
import java.util.Random;

/**
 * Random REALMS and runs beside a slow model of the document, written on its own:
 * it keeps whole states for undoing, and seeks by trying out everything.
 */
public final class ModelTest {
    private static final Due due = new Due("ModelTest");

    private static final class Thing {
        char sort;
        int far;
        int price;
        Integer sworn;

        Thing twin() {
            Thing t = new Thing();
            t.sort = sort;
            t.far = far;
            t.price = price;
            t.sworn = sworn;
            return t;
        }
    }

    private static final class World {
        int term;
        int day;
        int hits;
        List<Thing> things = new ArrayList<>();
        List<Integer> harms = new ArrayList<>();

        World twin() {
            World w = new World();
            w.term = term;
            w.day = day;
            w.hits = hits;
            for (Thing t : things) {
                w.things.add(t.twin());
            }
            w.harms.addAll(harms);
            return w;
        }

        String text() {
            StringBuilder s = new StringBuilder("b" + term + ";");
            for (Thing t : things) {
                s.append(t.sort).append(t.far).append(',').append(t.price).append(';');
            }
            for (int h : harms) {
                s.append('h').append(h).append(';');
            }
            return s.toString();
        }

        int cost(int t) {
            Thing x = things.get(t);
            int d = x.sort == 'f' || x.sort == 'l' ? 4 * x.far : 2 * x.far;
            return d == 0 ? 1 : d;
        }

        void ask(int t) {
            day += cost(t);
            if (things.get(t).sort != 'y' || day >= 10) {
                things.get(t).sworn = day;
            }
        }

        boolean bound(int t, int on) {
            Thing x = things.get(t);
            if (x.sworn == null || on < x.sworn || on > x.sworn + term - 1 || x.sort == 'l') {
                return false;
            }
            return x.sort != 'm' || t == 0 || bound(t - 1, on);
        }

        boolean safe(int h, int on) {
            for (int t = 0; t < things.size(); t++) {
                if ((harms.get(h) & 1 << t) != 0 && bound(t, on)) {
                    return true;
                }
            }
            return false;
        }

        int open(int on) {
            int bits = 0;
            for (int h = 0; h < harms.size(); h++) {
                if (!safe(h, on)) {
                    bits += 1 << h;
                }
            }
            return bits;
        }

        int price(int h) {
            int sum = 0;
            for (int t = 0; t < things.size(); t++) {
                if ((harms.get(h) & 1 << t) != 0) {
                    sum += things.get(t).price;
                }
            }
            return sum;
        }

        int gap() {
            for (int d = day; d <= day + 100; d++) {
                if (open(d) != 0) {
                    return d;
                }
            }
            return Due.NONE;
        }

        int cover() {
            for (int size = 0; size <= things.size(); size++) {
                for (int set = 0; set < 1 << things.size(); set++) {
                    if (Integer.bitCount(set) == size && covers(set)) {
                        return set;
                    }
                }
            }
            return Due.NONE;
        }

        private boolean covers(int set) {
            World w = twin();
            for (int t = 0; t < things.size(); t++) {
                if ((set & 1 << t) != 0) {
                    if (things.get(t).sort == 'y' && day < 10) {
                        return false;
                    }
                    w.things.get(t).sworn = day;
                }
            }
            return w.open(day) == 0;
        }

        /** DAYS, then the row; null: none. */
        List<Integer> round() {
            List<List<Integer>> rows = new ArrayList<>();
            rows.add(new ArrayList<>());
            for (int i = 0; i < rows.size(); i++) {
                for (int t = 0; t < things.size() && rows.get(i).size() < 4; t++) {
                    if (!rows.get(i).contains(t)) {
                        List<Integer> more = new ArrayList<>(rows.get(i));
                        more.add(t);
                        rows.add(more);
                    }
                }
            }
            List<Integer> best = null;
            int bestDays = 0;
            // By length, and of one length by numbers.
            for (List<Integer> row : rows) {
                World w = twin();
                for (int t : row) {
                    w.ask(t);
                }
                if (w.open(w.day) == 0 && (best == null || w.day - day < bestDays)) {
                    best = new ArrayList<>(row);
                    bestDays = w.day - day;
                }
            }
            if (best != null) {
                best.add(0, bestDays);
            }
            return best;
        }

        int cheapest(int on) {
            int best = Due.NONE;
            for (int h = harms.size() - 1; h >= 0; h--) {
                if (!safe(h, on) && (best == Due.NONE || price(h) <= price(best))) {
                    best = h;
                }
            }
            return best;
        }

        int[] defended(int on) {
            int best = Due.NONE;
            int bestPrice = Due.NONE;
            for (int t = things.size() - 1; t >= 0; t--) {
                World w = twin();
                w.ask(t);
                int h = w.cheapest(Math.max(on, w.day));
                int p = h == Due.NONE ? Due.NONE : price(h);
                boolean asGood = best == Due.NONE || p == bestPrice || p == Due.NONE
                    || bestPrice != Due.NONE && p > bestPrice;
                if (asGood) {
                    best = t;
                    bestPrice = p;
                }
            }
            return new int[] {best, bestPrice};
        }

        int enough() {
            for (int size = 0; size <= 5; size++) {
                for (int kinds = 0; kinds < 32; kinds++) {
                    if (Integer.bitCount(kinds) == size && allTouched(kinds)) {
                        return kinds;
                    }
                }
            }
            return Due.NONE;
        }

        private boolean allTouched(int kinds) {
            for (int h : harms) {
                boolean touched = false;
                for (int t = 0; t < things.size(); t++) {
                    touched |= (h & 1 << t) != 0 && (kinds & 1 << "pmyfl".indexOf(things.get(t).sort)) != 0;
                }
                if (!touched) {
                    return false;
                }
            }
            return true;
        }

        long[] odds(int h, int c) {
            long above = 0;
            long below = 1;
            // Each that is BOUND takes its share of what is left.
            for (int t = 0; t < things.size(); t++) {
                if ((harms.get(h) & 1 << t) != 0 && bound(t, day)) {
                    above = above * 10 + (below - above) * (10 - c);
                    below *= 10;
                }
            }
            for (long d = 2; d <= 5; d += 3) {
                while (above % d == 0 && below % d == 0) {
                    above /= d;
                    below /= d;
                }
            }
            return above == 0 ? new long[] {0, 1} : new long[] {above, below};
        }

        int hitBy(int[] tale) {
            int bits = 0;
            for (int h = 0; h < harms.size(); h++) {
                boolean can = true;
                for (int k = 0; k < tale.length; k++) {
                    can &= safe(h, day + k) == (tale[k] == 0);
                }
                bits |= can ? 1 << h : 0;
            }
            return bits;
        }

        int terms() {
            for (int t = 1; t <= 40; t++) {
                World w = twin();
                w.term = t;
                if (w.open(day) == 0) {
                    return t;
                }
            }
            return Due.NONE;
        }
    }

    private static final Random random = new Random(20261118);
    private static World w;
    private static final List<World> past = new ArrayList<>();
    private static final World[] images = new World[2];
    private static int readings;

    public static void main(String[] args) {
        for (int run = 0; run < 16000; run++) {
            run();
        }
        due.end();
    }

    /** Two texts, the steps and all that is checked behind them are less than the 512 calls that are promised. */
    private static void run() {
        AllSworn x = new AllSworn();
        past.clear();
        images[0] = null;
        images[1] = null;
        readings = 0;
        readAnew(x);
        // Some runs begin so late that DAY 999 is near.
        int start = random.nextInt(8) == 0 ? 940 + random.nextInt(60) : 0;
        while (w.day < start) {
            waits(x, Math.min(60, start - w.day));
        }
        int steps = random.nextInt(50);
        for (int step = 0; step < steps; step++) {
            act(x);
        }
        check(x);
    }

    private static void readAnew(AllSworn x) {
        if (readings == 2) {
            return;
        }
        readings++;
        do {
            w = new World();
            w.term = 1 + random.nextInt(random.nextBoolean() ? 40 : 15);
            int things = random.nextInt(9);
            for (int t = 0; t < things; t++) {
                Thing thing = new Thing();
                thing.sort = "pmyfl".charAt(random.nextInt(random.nextInt(3) == 0 ? 5 : 4));
                thing.far = random.nextInt(random.nextInt(4) == 0 ? 10 : 3);
                thing.price = random.nextInt(random.nextBoolean() ? 21 : 5);
                w.things.add(thing);
            }
            int harms = things == 0 ? 0 : random.nextInt(9);
            for (int h = 0; h < harms; h++) {
                w.harms.add(1 + random.nextInt((1 << things) - 1));
            }
        } while (w.text().length() > 120);
        Due.feed(x, w.text());
        due.is(w.text(), x.realm(), w.things.size());
        past.clear();
    }

    private static void act(AllSworn x) {
        int choice = random.nextInt(100);
        World before = w.twin();
        if (choice < 45 && !w.things.isEmpty()) {
            int t = random.nextInt(w.things.size());
            boolean full = w.day + w.cost(t) > 999;
            if (!full) {
                w.ask(t);
                keep(before);
            }
            due.is("askFor(" + t + ")", x.askFor(t), full ? Due.FULL : w.day);
        } else if (choice < 60 && !w.harms.isEmpty()) {
            int h = random.nextInt(w.harms.size());
            int hit = w.safe(h, w.day) ? 0 : 1;
            w.hits += hit;
            keep(before);
            due.is("tries(" + h + ")", x.tries(h), hit);
        } else if (choice < 80) {
            waits(x, 1 + random.nextInt(random.nextInt(4) == 0 ? 60 : 6));
        } else if (choice < 92) {
            if (past.isEmpty()) {
                due.is("undo()", x.undo(), Due.STATE);
            } else {
                w = past.remove(past.size() - 1);
                due.is("undo()", x.undo(), past.size());
            }
        } else if (choice < 95) {
            int k = random.nextInt(2);
            images[k] = w.twin();
            due.is("image(" + k + ")", x.image(k), 1);
        } else if (choice < 99) {
            int k = random.nextInt(2);
            due.is("restore(" + k + ")", x.restore(k), images[k] == null ? Due.STATE : 1);
            if (images[k] != null) {
                w = images[k].twin();
                past.clear();
            }
        } else {
            readAnew(x);
        }
    }

    private static void waits(AllSworn x, int n) {
        World before = w.twin();
        boolean full = w.day + n > 999;
        if (!full) {
            w.day += n;
            keep(before);
        }
        due.is("waits(" + n + ")", x.waits(n), full ? Due.FULL : w.day);
    }

    private static void keep(World before) {
        past.add(before);
        if (past.size() > 24) {
            past.remove(0);
        }
    }

    private static void check(AllSworn x) {
        int[] counts = {w.things.size(), w.harms.size(), w.day, w.hits, w.term, past.size()};
        for (int what = 1; what <= 6; what++) {
            due.is("count(" + what + ")", x.count(what), counts[what - 1]);
        }
        for (int t = 0; t < w.things.size(); t++) {
            Thing thing = w.things.get(t);
            int[] want = {thing.far, thing.price, thing.sworn == null ? Due.NONE : thing.sworn,
                w.bound(t, w.day) ? 1 : 0, w.cost(t)};
            for (int what = 0; what < 5; what++) {
                due.is("thing(" + t + ", " + what + ") of " + w.text(), x.thing(t, what), want[what]);
            }
        }
        for (int h = 0; h < w.harms.size(); h++) {
            due.is("harm(" + h + ", 0)", x.harm(h, 0), w.harms.get(h));
            due.is("harm(" + h + ", 1)", x.harm(h, 1), w.safe(h, w.day) ? 1 : 0);
            due.is("harm(" + h + ", 2)", x.harm(h, 2), w.price(h));
            int c = random.nextInt(11);
            long[] odds = w.odds(h, c);
            due.is("odds(" + h + ", " + c + ", 0)", x.odds(h, c, 0), odds[0]);
            due.is("odds(" + h + ", " + c + ", 1)", x.odds(h, c, 1), odds[1]);
        }
        checkForetold(x);
        checkTale(x);
    }

    private static void checkForetold(AllSworn x) {
        String on = " of " + w.text() + " on " + w.day;
        int day = w.day + (random.nextBoolean() ? random.nextInt(12) : random.nextInt(101));
        due.is("open(" + day + ")" + on, x.open(day), w.open(day));
        due.is("gap()" + on, x.gap(), w.gap());
        pair("cover" + on, x.cover(0), x.cover(1), w.cover());
        pair("enough" + on, x.enough(0), x.enough(1), w.enough());
        due.is("terms()" + on, x.terms(), w.terms());
        int cheapest = w.cheapest(day);
        due.is("cheapest(" + day + ", 0)" + on, x.cheapest(day, 0), cheapest);
        due.is("cheapest(" + day + ", 1)" + on, x.cheapest(day, 1), cheapest == Due.NONE ? cheapest : w.price(cheapest));
        int[] defended = w.defended(day);
        due.is("defended(" + day + ", 0)" + on, x.defended(day, 0), defended[0]);
        due.is("defended(" + day + ", 1)" + on, x.defended(day, 1), defended[1]);
        if (random.nextInt(8) == 0) {
            List<Integer> round = w.round();
            int[] want = new int[6];
            Arrays.fill(want, Due.NONE);
            if (round != null) {
                want[0] = round.get(0);
                want[1] = round.size() - 1;
                for (int k = 1; k < round.size(); k++) {
                    want[k + 1] = round.get(k);
                }
            }
            for (int what = -2; what < 4; what++) {
                due.is("round(" + what + ")" + on, x.round(what), want[what + 2]);
            }
        }
    }

    private static void pair(String what, int howMany, int which, int set) {
        due.is(what + " how many", howMany, set == Due.NONE ? set : Integer.bitCount(set));
        due.is(what + " which", which, set);
    }

    private static void checkTale(AllSworn x) {
        int n = 1 + random.nextInt(12);
        int from = random.nextInt(5);
        int lane = random.nextInt(3);
        int[] tale = new int[n];
        x.row(6, lane, from + n);
        int turn = random.nextInt(n + 1);
        int first = random.nextInt(2);
        for (int k = 0; k < n; k++) {
            tale[k] = k < turn ? first : 1 - first;
            x.set(6, from + k, tale[k]);
        }
        due.is("hitBy " + Arrays.toString(tale) + " of " + w.text(), x.hitBy(6, from, n), w.hitBy(tale));
    }
}
