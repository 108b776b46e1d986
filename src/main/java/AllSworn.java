import java.util.Arrays;

/**
 * A prince, the things that can hurt him, and the envoy who asks them for oaths.
 * The face checks what it is given, in the order that the document tells; the classes inside do the rest.
 */
public final class AllSworn {
    public static final int NONE = -1000000, BAD = -1000001, STATE = -1000002, FULL = -1000003;

    private static final int FINDINGS = -1000010, FAULTS = -1000100;
    private static final int NULL = 1, PLACE = 2, KIND = 3, SIZE = 4, STORE = 5;
    private static final int ROWS = 8, ITEMS = 40, BYTES = 0, SHORTS = 1, INTS = 2;
    private static final int THINGS = 8, HARMS = 8, IMAGES = 2;
    private static final int TERM_MOST = 40, FAR_MOST = 9, PRICE_MOST = 20;
    private static final int THING = 0, PLAIN = 1, MIXED = 2, YOUNG = 3, FOREIGN = 4, FALSE = 5;
    private static final int DAY_MOST = 999, WAIT_MOST = 60, AHEAD = 100, GROWN_DAY = 10;
    private static final int ROUND_DAYS = -2, ROUND_LENGTH = -1, ROUND_MOST = 4;
    private static final int TENTHS = 10, HIT_DAYS = 12;

    private final Row[] rows = new Row[ROWS];
    private final Reader reader = new Reader();
    private final Realm draft = new Realm();
    private final Realm present = new Realm();
    private final Realm[] images = new Realm[IMAGES];
    private final Oracle oracle = new Oracle();
    private final Trace left = new Trace();
    private int latestFault = 0;
    private int latestFinding = 0;

    public AllSworn() {
        for (int i = 0; i < ROWS; i++) {
            rows[i] = new Row();
        }
        for (int k = 0; k < IMAGES; k++) {
            images[k] = new Realm();
        }
    }

    // ---- rows

    public int row(int row, int lane, int n) {
        Row laid = rowAt(row);
        if (laid == null || lane < BYTES || lane > INTS || n > ITEMS) {
            return BAD;
        }
        if (n < 0) {
            return found(SIZE);
        }
        laid.lay(lane, n);
        return clean(n);
    }

    public int set(int row, int i, int v) {
        Row changed = rowAt(row);
        if (changed == null) {
            return BAD;
        }
        if (changed.isMissing()) {
            return found(NULL);
        }
        if (!changed.spans(i, 1)) {
            return found(PLACE);
        }
        return clean(changed.put(i, v));
    }

    public int copy(int a, int i, int b, int j, int n) {
        Row from = rowAt(a);
        Row to = rowAt(b);
        if (from == null || to == null) {
            return BAD;
        }
        if (from.isMissing() || to.isMissing()) {
            return found(NULL);
        }
        if (from.lane != to.lane) {
            return found(STORE);
        }
        if (!from.spans(i, n) || !to.spans(j, n)) {
            return found(PLACE);
        }
        to.takeFrom(from, i, j, n);
        return clean(n);
    }

    public int drop(int row) {
        Row dropped = rowAt(row);
        if (dropped == null) {
            return BAD;
        }
        if (dropped.isMissing()) {
            return found(NULL);
        }
        int had = dropped.size;
        dropped.vanish();
        return clean(had);
    }

    // ---- realms, acts

    public int feed(int letter) {
        if (letter < 0 || letter > 255) {
            return BAD;
        }
        return reader.take(letter) ? reader.length : FULL;
    }

    public int realm() {
        if (!reader.readTo(draft)) {
            latestFault = reader.wrong;
            return FAULTS - reader.wrongPlace;
        }
        present.becomeLike(draft);
        return present.thingCount;
    }

    public int fault() {
        return latestFault;
    }

    public int askFor(int thing) {
        Thing asked = present.thingAt(thing);
        if (asked == null) {
            return BAD;
        }
        if (present.day + asked.daysToAsk() > DAY_MOST) {
            return FULL;
        }
        present.sendTo(asked);
        return present.day;
    }

    public int tries(int harm) {
        if (!present.hasHarm(harm)) {
            return BAD;
        }
        return present.tryHarm(harm) ? 1 : 0;
    }

    public int waits(int n) {
        if (!present.isTold()) {
            return STATE;
        }
        if (n < 1 || n > WAIT_MOST) {
            return BAD;
        }
        if (present.day + n > DAY_MOST) {
            return FULL;
        }
        present.letPass(n);
        return present.day;
    }

    public int undo() {
        return present.undoLatest() ? present.actCount : STATE;
    }

    public int thing(int thing, int what) {
        Thing told = present.thingAt(thing);
        if (told == null) {
            return BAD;
        }
        switch (what) {
            case 0: return told.far;
            case 1: return told.price;
            case 2: return present.oathOf(thing);
            case 3: return present.boundOn(present.day) >> told.number & 1;
            case 4: return told.daysToAsk();
            default: return BAD;
        }
    }

    public int harm(int harm, int what) {
        if (!present.hasHarm(harm)) {
            return BAD;
        }
        int set = present.harmAt(harm);
        switch (what) {
            case 0: return set;
            case 1: return (set & present.boundOn(present.day)) != 0 ? 1 : 0;
            case 2: return present.priceOf(set);
            default: return BAD;
        }
    }

    public int open(int day) {
        if (!present.isTold()) {
            return STATE;
        }
        return isAhead(day) ? present.openOn(day) : BAD;
    }

    // ---- foretold

    public int gap() {
        return present.isTold() ? oracle.firstGap(present) : STATE;
    }

    public int cover(int what) {
        if (!present.isTold()) {
            return STATE;
        }
        return isPair(what) ? sizeOrSet(oracle.leastCover(present), what) : BAD;
    }

    public int round(int what) {
        if (!present.isTold()) {
            return STATE;
        }
        if (what < ROUND_DAYS || what >= ROUND_MOST) {
            return BAD;
        }
        oracle.seekRound(present);
        switch (what) {
            case ROUND_DAYS: return oracle.bestDays;
            case ROUND_LENGTH: return oracle.bestLength;
            default: return oracle.bestStop(what);
        }
    }

    public int cheapest(int day, int what) {
        if (!present.isTold()) {
            return STATE;
        }
        if (!isAhead(day) || !isPair(what)) {
            return BAD;
        }
        return what == 0 ? present.cheapestOn(day) : present.cheapestPriceOn(day);
    }

    public int defended(int day, int what) {
        if (!present.isTold()) {
            return STATE;
        }
        if (!isAhead(day) || !isPair(what)) {
            return BAD;
        }
        int best = oracle.bestDefence(present, day);
        return what == 0 ? best : oracle.priceBehind(present, present.thingAt(best), day);
    }

    public int enough(int what) {
        if (!present.isTold()) {
            return STATE;
        }
        return isPair(what) ? sizeOrSet(oracle.leastKinds(present), what) : BAD;
    }

    public int odds(int harm, int c, int what) {
        if (!present.hasHarm(harm) || c < 0 || c > TENTHS || !isPair(what)) {
            return BAD;
        }
        int bound = Integer.bitCount(present.harmAt(harm) & present.boundOn(present.day));
        int below = power(TENTHS, bound);
        int above = below - power(c, bound);
        int shared = sharedDivisor(above, below);
        return (what == 0 ? above : below) / Math.max(1, shared);
    }

    public int hitBy(int row, int i, int n) {
        if (!present.isTold()) {
            return STATE;
        }
        Row tale = rowAt(row);
        if (tale == null || n < 1 || n > HIT_DAYS) {
            return BAD;
        }
        if (tale.isMissing()) {
            return found(NULL);
        }
        if (!tale.spans(i, n)) {
            return found(PLACE);
        }
        if (!tale.tellsYesOrNo(i, n)) {
            return BAD;
        }
        return clean(oracle.suspects(present, tale, i, n));
    }

    public int terms() {
        return present.isTold() ? oracle.leastTerm(present) : STATE;
    }

    public int image(int k) {
        Realm kept = imageAt(k);
        if (kept == null) {
            return BAD;
        }
        if (!present.isTold()) {
            return STATE;
        }
        kept.becomeLike(present);
        return 1;
    }

    public int restore(int k) {
        Realm kept = imageAt(k);
        if (kept == null) {
            return BAD;
        }
        if (!kept.isTold()) {
            return STATE;
        }
        present.becomeLike(kept);
        return 1;
    }

    // ---- asked

    public int kind(int thing) {
        Thing told = present.thingAt(thing);
        return told == null ? BAD : told.toldKind();
    }

    public int as(int thing, int kind) {
        Thing told = present.thingAt(thing);
        if (told == null || kind < THING || kind > FALSE) {
            return BAD;
        }
        return told.isOf(kind) ? clean(told.number) : found(KIND);
    }

    public int ask(int thing, int what) {
        Thing asked = present.thingAt(thing);
        if (asked == null || !isPair(what)) {
            return BAD;
        }
        left.clear();
        return what == 0 ? asked.size(left, present) : asked.mark(left, present);
    }

    public int trace(int i) {
        return left.numberAt(i);
    }

    public int count(int what) {
        switch (what) {
            case 0: return rowsThere();
            case 1: return present.thingCount;
            case 2: return present.harmCount;
            case 3: return present.day;
            case 4: return present.hits;
            case 5: return present.term;
            case 6: return present.actCount;
            case 7: return reader.length;
            default: return BAD;
        }
    }

    public int status() {
        return latestFinding;
    }

    private int found(int number) {
        latestFinding = number;
        return FINDINGS - number;
    }

    private int clean(int answer) {
        latestFinding = 0;
        return answer;
    }

    private Row rowAt(int i) {
        return i >= 0 && i < ROWS ? rows[i] : null;
    }

    private Realm imageAt(int k) {
        return k >= 0 && k < IMAGES ? images[k] : null;
    }

    private int rowsThere() {
        int there = 0;
        for (int i = 0; i < ROWS; i++) {
            if (rows[i] != null && !rows[i].isMissing()) {
                there++;
            }
        }
        return there;
    }

    private boolean isAhead(int day) {
        return day >= present.day && day <= present.day + AHEAD;
    }

    private static boolean isPair(int what) {
        return what == 0 || what == 1;
    }

    private static int sizeOrSet(int set, int what) {
        return set == NONE || what == 1 ? set : Integer.bitCount(set);
    }

    private static int power(int base, int exponent) {
        int product = 1;
        for (int i = 0; i < exponent; i++) {
            product *= base;
        }
        return product;
    }

    private static int sharedDivisor(int a, int b) {
        int low = a;
        int high = b;
        // Euclid's steps on two ints are fewer than 48.
        for (int step = 0; step < 64 && low != 0; step++) {
            int rest = high % low;
            high = low;
            low = rest;
        }
        return high;
    }

    /** Room for the most ITEMS is made once, so that a run of row() calls makes nothing anew. */
    private static final class Row {
        private static final int MISSING = -1;

        private final int[] items = new int[ITEMS];
        private int lane = BYTES;
        private int size = MISSING;

        boolean isMissing() {
            return size == MISSING;
        }

        void vanish() {
            size = MISSING;
        }

        void lay(int newLane, int n) {
            lane = newLane;
            size = n;
            Arrays.fill(items, 0);
        }

        boolean spans(int from, int n) {
            // size less n cannot wrap around, from and n together could.
            return from >= 0 && n >= 0 && from <= size - n;
        }

        int put(int i, int v) {
            if (!spans(i, 1)) {
                return 0;
            }
            items[i] = narrowed(v);
            return items[i];
        }

        void takeFrom(Row other, int i, int j, int n) {
            if (other.spans(i, n) && spans(j, n)) {
                System.arraycopy(other.items, i, items, j, n);
            }
        }

        boolean tellsYesOrNo(int from, int n) {
            if (!spans(from, n)) {
                return false;
            }
            for (int k = 0; k < n; k++) {
                if (items[from + k] != 0 && items[from + k] != 1) {
                    return false;
                }
            }
            return true;
        }

        boolean tellsHit(int i) {
            return spans(i, 1) && items[i] == 1;
        }

        private int narrowed(int v) {
            switch (lane) {
                case BYTES: return (byte) v;
                case SHORTS: return (short) v;
                default: return v;
            }
        }
    }

    /** The tape and the reading of it: once a FAULT is noted, the steps behind it do nothing. */
    private static final class Reader {
        private static final int TAPE = 120, FIGURES = 3, END = -1;
        private static final int MISPLACED = 1, NOT_AS_TOLD = 2, NO_ROOM = 3;

        private final int[] tape = new int[TAPE];
        private int length = 0;
        private int at = 0;
        private int wrong = 0;
        private int wrongPlace = 0;

        boolean take(int letter) {
            if (length >= TAPE) {
                return false;
            }
            tape[length] = letter;
            length++;
            return true;
        }

        boolean readTo(Realm realm) {
            at = 0;
            wrong = 0;
            expect('b');
            realm.beginAnew(readNumber(1, TERM_MOST));
            expect(';');
            // Each part takes a byte at least, or has a FAULT.
            for (int part = 0; part < TAPE && wrong == 0 && at < length; part++) {
                int kind = kindOf(next());
                if (kind != THING && realm.harmCount == 0) {
                    readThing(realm, kind);
                } else if (next() == 'h') {
                    readHarm(realm);
                } else {
                    note(MISPLACED, at);
                }
            }
            length = 0;
            return wrong == 0;
        }

        private void readThing(Realm realm, int kind) {
            if (realm.thingCount >= THINGS) {
                note(NO_ROOM, at);
                return;
            }
            at++;
            int far = readNumber(0, FAR_MOST);
            expect(',');
            int price = readNumber(0, PRICE_MOST);
            expect(';');
            if (wrong == 0) {
                realm.addThing(made(kind, realm.thingCount, far, price));
            }
        }

        private void readHarm(Realm realm) {
            if (realm.harmCount >= HARMS) {
                note(NO_ROOM, at);
                return;
            }
            at++;
            int set = readNumber(1, (1 << realm.thingCount) - 1);
            expect(';');
            if (wrong == 0) {
                realm.addHarm(set);
            }
        }

        private void expect(char sign) {
            if (wrong != 0) {
                return;
            }
            if (next() == sign) {
                at++;
            } else {
                note(MISPLACED, at);
            }
        }

        private int readNumber(int least, int most) {
            if (wrong != 0) {
                return least;
            }
            int start = at;
            int value = 0;
            // Figures side by side are one NUMBER: of too many the value may wrap around, but is not looked at.
            for (int k = 0; k < TAPE && next() >= '0' && next() <= '9'; k++) {
                value = value * 10 + (next() - '0');
                at++;
            }
            int figures = at - start;
            if (figures == 0 || figures > FIGURES) {
                note(MISPLACED, start);
            } else if (value < least || value > most) {
                note(NOT_AS_TOLD, start);
            }
            return value;
        }

        private int next() {
            return at >= 0 && at < length && at < TAPE ? tape[at] : END;
        }

        private void note(int number, int place) {
            wrong = number;
            wrongPlace = place;
        }

        private static int kindOf(int letter) {
            switch (letter) {
                case 'p': return PLAIN;
                case 'm': return MIXED;
                case 'y': return YOUNG;
                case 'f': return FOREIGN;
                case 'l': return FALSE;
                default: return THING;
            }
        }

        private static Thing made(int kind, int number, int far, int price) {
            switch (kind) {
                case MIXED: return new Mixed(number, far, price);
                case YOUNG: return new Young(number, far, price);
                case FOREIGN: return new Foreign(number, far, price);
                case FALSE: return new Untrue(number, far, price);
                default: return new Plain(number, far, price);
            }
        }
    }

    /** What was told, and what has happened since. Its THINGS never change, so REALMS may share them. */
    private static final class Realm {
        private static final int ACTS = 24;
        // An ACT is kept as what it may have changed: a THING, its oath, the DAY, the HITS, as they were.
        private static final int ACT = 4;

        private final Thing[] things = new Thing[THINGS];
        private final int[] sworn = new int[THINGS];
        private final int[] harms = new int[HARMS];
        private final int[] acts = new int[ACTS * ACT];
        private int term = 0;
        private int thingCount = 0;
        private int harmCount = 0;
        private int actCount = 0;
        private int day = 0;
        private int hits = 0;

        boolean isTold() {
            return term > 0;
        }

        void beginAnew(int newTerm) {
            term = newTerm;
            thingCount = 0;
            harmCount = 0;
            actCount = 0;
            day = 0;
            hits = 0;
        }

        void addThing(Thing told) {
            if (thingCount < THINGS) {
                things[thingCount] = told;
                sworn[thingCount] = NONE;
                thingCount++;
            }
        }

        void addHarm(int set) {
            if (harmCount < HARMS) {
                harms[harmCount] = set;
                harmCount++;
            }
        }

        void becomeLike(Realm other) {
            term = other.term;
            thingCount = other.thingCount;
            harmCount = other.harmCount;
            actCount = 0;
            day = other.day;
            hits = other.hits;
            for (int t = 0; t < THINGS; t++) {
                things[t] = other.things[t];
            }
            System.arraycopy(other.sworn, 0, sworn, 0, THINGS);
            System.arraycopy(other.harms, 0, harms, 0, HARMS);
        }

        Thing thingAt(int number) {
            return number >= 0 && number < thingCount && number < THINGS ? things[number] : null;
        }

        int oathOf(int number) {
            return number >= 0 && number < thingCount && number < THINGS ? sworn[number] : NONE;
        }

        boolean hasHarm(int number) {
            return number >= 0 && number < harmCount && number < HARMS;
        }

        int harmAt(int number) {
            return hasHarm(number) ? harms[number] : 0;
        }

        void sendTo(Thing asked) {
            keepAct(asked.number);
            day += asked.daysToAsk();
            if (asked.swearsOn(day)) {
                swear(asked.number, day);
            }
        }

        boolean tryHarm(int number) {
            boolean hit = (openOn(day) >> number & 1) == 1;
            keepAct(NONE);
            if (hit) {
                hits++;
            }
            return hit;
        }

        void letPass(int days) {
            keepAct(NONE);
            day += days;
        }

        boolean undoLatest() {
            if (actCount < 1 || actCount > ACTS) {
                return false;
            }
            actCount--;
            int at = actCount * ACT;
            swear(acts[at], acts[at + 1]);
            day = acts[at + 2];
            hits = acts[at + 3];
            return true;
        }

        private void keepAct(int number) {
            if (actCount >= ACTS) {
                System.arraycopy(acts, ACT, acts, 0, (ACTS - 1) * ACT);
                actCount = ACTS - 1;
            }
            int at = actCount * ACT;
            acts[at] = number;
            acts[at + 1] = oathOf(number);
            acts[at + 2] = day;
            acts[at + 3] = hits;
            actCount++;
        }

        private void swear(int number, int onDay) {
            if (number >= 0 && number < thingCount && number < THINGS) {
                sworn[number] = onDay;
            }
        }

        int boundOn(int onDay) {
            return boundIf(onDay, term, 0);
        }

        /** BOUND on a DAY by some TERM, if the fresh ones SWORE on that very DAY. */
        int boundIf(int onDay, int byTerm, int fresh) {
            int bound = 0;
            for (int t = 0; t < thingCount && t < THINGS; t++) {
                Thing told = things[t];
                int oath = (fresh >> t & 1) == 1 ? onDay : sworn[t];
                boolean holds = oath != NONE && oath <= onDay && onDay < oath + byTerm;
                if (holds && told != null && told.isHeldBy(bound)) {
                    bound |= 1 << t;
                }
            }
            return bound;
        }

        int openOn(int onDay) {
            return openTo(boundIf(onDay, term, 0));
        }

        int openTo(int bound) {
            int open = 0;
            for (int h = 0; h < harmCount && h < HARMS; h++) {
                if ((harms[h] & bound) == 0) {
                    open |= 1 << h;
                }
            }
            return open;
        }

        int priceOf(int set) {
            int price = 0;
            for (int t = 0; t < thingCount && t < THINGS; t++) {
                if ((set >> t & 1) == 1 && things[t] != null) {
                    price += things[t].price;
                }
            }
            return price;
        }

        int cheapestOn(int onDay) {
            int open = openTo(boundIf(onDay, term, 0));
            int cheapest = NONE;
            int least = 0;
            for (int h = 0; h < harmCount && h < HARMS; h++) {
                int price = priceOf(harms[h]);
                if ((open >> h & 1) == 1 && (cheapest == NONE || price < least)) {
                    cheapest = h;
                    least = price;
                }
            }
            return cheapest;
        }

        int cheapestPriceOn(int onDay) {
            int cheapest = cheapestOn(onDay);
            return cheapest == NONE ? NONE : priceOf(harmAt(cheapest));
        }

        int toldAs(int kinds) {
            int told = 0;
            for (int t = 0; t < thingCount && t < THINGS; t++) {
                // KIND 1 is bit 0.
                if (things[t] != null && (kinds >> things[t].toldKind() - 1 & 1) == 1) {
                    told |= 1 << t;
                }
            }
            return told;
        }

        int harmsWith(int number) {
            int with = 0;
            for (int h = 0; h < harmCount && h < HARMS; h++) {
                with += harms[h] >> number & 1;
            }
            return with;
        }
    }

    /** What is FORETOLD: ASKING is played on a REALM of its own, so that nothing changes in the one that stands. */
    private static final class Oracle {
        // Above what all THINGS together can cost.
        private static final int PRICELESS = THINGS * PRICE_MOST + 1;

        private final Realm dream = new Realm();
        private final int[] way = new int[ROUND_MOST];
        private final int[] bestWay = new int[ROUND_MOST];
        private int bestDays = NONE;
        private int bestLength = NONE;

        int firstGap(Realm realm) {
            for (int later = 0; later <= AHEAD; later++) {
                if (realm.openOn(realm.day + later) != 0) {
                    return realm.day + later;
                }
            }
            return NONE;
        }

        int leastCover(Realm realm) {
            int willing = willingOn(realm, realm.day);
            int best = NONE;
            for (int set = 0; set < 1 << realm.thingCount; set++) {
                boolean fewer = best == NONE || Integer.bitCount(set) < Integer.bitCount(best);
                if (fewer && (set & ~willing) == 0
                        && realm.openTo(realm.boundIf(realm.day, realm.term, set)) == 0) {
                    best = set;
                }
            }
            return best;
        }

        private static int willingOn(Realm realm, int day) {
            int willing = 0;
            for (int t = 0; t < realm.thingCount; t++) {
                Thing told = realm.thingAt(t);
                if (told != null && told.swearsOn(day)) {
                    willing |= 1 << t;
                }
            }
            return willing;
        }

        void seekRound(Realm realm) {
            dream.becomeLike(realm);
            bestDays = NONE;
            bestLength = NONE;
            goOn(0, 0, realm.day);
        }

        /** Rows come by their numbers, so that of several that are alike the first one is kept. */
        private void goOn(int depth, int gone, int start) {
            int days = dream.day - start;
            if (dream.openOn(dream.day) == 0) {
                keepWay(depth, days);
                return;
            }
            // Each ASKING takes a DAY at least: what goes on from here cannot be better.
            if (depth >= ROUND_MOST || bestDays != NONE && days >= bestDays) {
                return;
            }
            for (int t = 0; t < dream.thingCount; t++) {
                Thing asked = dream.thingAt(t);
                if (asked != null && (gone >> t & 1) == 0) {
                    way[depth] = t;
                    dream.sendTo(asked);
                    goOn(depth + 1, gone | 1 << t, start);
                    dream.undoLatest();
                }
            }
        }

        private void keepWay(int length, int days) {
            if (bestDays == NONE || days < bestDays || days == bestDays && length < bestLength) {
                bestDays = days;
                bestLength = length;
                System.arraycopy(way, 0, bestWay, 0, ROUND_MOST);
            }
        }

        int bestStop(int k) {
            return k >= 0 && k < bestLength && k < ROUND_MOST ? bestWay[k] : NONE;
        }

        int bestDefence(Realm realm, int day) {
            int best = NONE;
            int most = -1;
            for (int t = 0; t < realm.thingCount; t++) {
                int price = priceBehind(realm, realm.thingAt(t), day);
                int worth = price == NONE ? PRICELESS : price;
                if (worth > most) {
                    best = t;
                    most = worth;
                }
            }
            return best;
        }

        int priceBehind(Realm realm, Thing asked, int day) {
            if (asked == null) {
                return NONE;
            }
            dream.becomeLike(realm);
            dream.sendTo(asked);
            return dream.cheapestPriceOn(Math.max(day, dream.day));
        }

        int leastKinds(Realm realm) {
            int best = NONE;
            for (int kinds = 0; kinds < 1 << FALSE; kinds++) {
                boolean fewer = best == NONE || Integer.bitCount(kinds) < Integer.bitCount(best);
                if (fewer && realm.openTo(realm.toldAs(kinds)) == 0) {
                    best = kinds;
                }
            }
            return best;
        }

        int suspects(Realm realm, Row tale, int from, int n) {
            int left = (1 << realm.harmCount) - 1;
            for (int k = 0; k < n; k++) {
                int open = realm.openOn(realm.day + k);
                left &= tale.tellsHit(from + k) ? open : ~open;
            }
            return left;
        }

        int leastTerm(Realm realm) {
            for (int term = 1; term <= TERM_MOST; term++) {
                if (realm.openTo(realm.boundIf(realm.day, term, 0)) == 0) {
                    return term;
                }
            }
            return NONE;
        }
    }

    private static final class Trace {
        private static final int LONGEST = 16;

        private final int[] numbers = new int[LONGEST];
        private int length = 0;

        void clear() {
            length = 0;
        }

        void leave(int number) {
            if (length < LONGEST) {
                numbers[length] = number;
                length++;
            }
        }

        int numberAt(int i) {
            return i >= 0 && i < length && i < LONGEST ? numbers[i] : NONE;
        }
    }

    /** A THING as told; what has SWORN stands in the REALM. */
    private abstract static class Thing {
        final int number;
        final int far;
        final int price;

        Thing(int number, int far, int price) {
            this.number = number;
            this.far = far;
            this.price = price;
        }

        abstract int toldKind();

        boolean isOf(int kind) {
            return kind == THING;
        }

        int daysToAsk() {
            return Math.max(1, 2 * far);
        }

        boolean swearsOn(int day) {
            return true;
        }

        /** Whether an oath that holds makes it BOUND, beside those of lower numbers that are. */
        boolean isHeldBy(int boundBefore) {
            return true;
        }

        int size(Trace left, Realm realm) {
            left.leave(10);
            return price;
        }

        int mark(Trace left, Realm realm) {
            left.leave(20);
            return number;
        }
    }

    private static class Plain extends Thing {
        Plain(int number, int far, int price) {
            super(number, far, price);
        }

        int toldKind() {
            return PLAIN;
        }

        boolean isOf(int kind) {
            return kind == PLAIN || super.isOf(kind);
        }

        int size(Trace left, Realm realm) {
            left.leave(11);
            return super.size(left, realm) + mark(left, realm);
        }

        int mark(Trace left, Realm realm) {
            left.leave(21);
            return super.mark(left, realm) + realm.harmsWith(number);
        }
    }

    private static final class Mixed extends Plain {
        Mixed(int number, int far, int price) {
            super(number, far, price);
        }

        int toldKind() {
            return MIXED;
        }

        boolean isOf(int kind) {
            return kind == MIXED || super.isOf(kind);
        }

        boolean isHeldBy(int boundBefore) {
            return number == 0 || (boundBefore >> number - 1 & 1) == 1;
        }

        int size(Trace left, Realm realm) {
            left.leave(12);
            return -super.size(left, realm);
        }

        int mark(Trace left, Realm realm) {
            left.leave(24);
            return 2 * super.mark(left, realm);
        }
    }

    private static final class Young extends Plain {
        Young(int number, int far, int price) {
            super(number, far, price);
        }

        int toldKind() {
            return YOUNG;
        }

        boolean isOf(int kind) {
            return kind == YOUNG || super.isOf(kind);
        }

        boolean swearsOn(int day) {
            return day >= GROWN_DAY;
        }

        int mark(Trace left, Realm realm) {
            left.leave(22);
            return super.mark(left, realm) - 1000;
        }
    }

    private static class Foreign extends Thing {
        Foreign(int number, int far, int price) {
            super(number, far, price);
        }

        int toldKind() {
            return FOREIGN;
        }

        boolean isOf(int kind) {
            return kind == FOREIGN || super.isOf(kind);
        }

        int daysToAsk() {
            return Math.max(1, 4 * far);
        }

        int size(Trace left, Realm realm) {
            left.leave(13);
            return super.size(left, realm) - 100;
        }

        int mark(Trace left, Realm realm) {
            left.leave(23);
            return super.mark(left, realm) - size(left, realm);
        }
    }

    private static final class Untrue extends Foreign {
        Untrue(int number, int far, int price) {
            super(number, far, price);
        }

        int toldKind() {
            return FALSE;
        }

        boolean isOf(int kind) {
            return kind == FALSE || super.isOf(kind);
        }

        boolean isHeldBy(int boundBefore) {
            return false;
        }

        int size(Trace left, Realm realm) {
            left.leave(14);
            return 2 * super.size(left, realm);
        }
    }
}
