import java.util.Random;

/** Whatever the arguments and the state: no call throws, each ends, and the same calls give the same answers. */
public final class AnyArgumentsTest {
    private static final Due due = new Due("AnyArgumentsTest");
    private static final String LETTERS = "bpmyflh,;0123456789";
    private static final String[] TEXTS = {
        "b12;p2,5;m1,7;y0,3;f1,9;l2,2;p3,20;h3;h12;h20;h34;h40;",
        "b3;m0,0;m0,0;m0,0;m0,0;m0,0;m0,0;m0,0;m0,0;h255;h128;h1;",
        "b40;", "b1;l9,20;h1;", "b41;", "b7;y0,1;y9,2;h1;h2;h3;"};

    public static void main(String[] args) {
        for (int seed = 0; seed < 400; seed++) {
            due.is("answers of run " + seed, answers(seed), answers(seed));
        }
        due.end();
    }

    private static long answers(int seed) {
        Random random = new Random(seed);
        AllSworn x = new AllSworn();
        long all = 0;
        int calls = 0;
        while (calls < Run.CALLS) {
            String text = TEXTS[random.nextInt(TEXTS.length)];
            if (random.nextInt(40) == 0 && calls + text.length() < Run.CALLS) {
                Due.feed(x, text);
                calls += text.length();
            }
            all = all * 31 + call(x, random.nextInt(34), random);
            calls++;
        }
        return all;
    }

    private static int any(Random random) {
        switch (random.nextInt(8)) {
            case 0: return random.nextInt();
            case 1: return random.nextBoolean() ? Integer.MAX_VALUE : Integer.MIN_VALUE;
            case 2: return random.nextInt(110) - 5;
            case 3: return -1000000 - random.nextInt(3);
            default: return random.nextInt(10) - 1;
        }
    }

    private static int call(AllSworn x, int which, Random r) {
        switch (which) {
            case 0: return x.row(any(r), any(r), any(r));
            case 1: return x.set(any(r), any(r), any(r));
            case 2: return x.copy(any(r), any(r), any(r), any(r), any(r));
            case 3: return x.drop(any(r));
            case 4: return x.feed(any(r));
            case 5: return x.feed(LETTERS.charAt(r.nextInt(LETTERS.length())));
            case 6: return x.realm();
            case 7: return x.fault();
            case 8: return x.askFor(any(r));
            case 9: return x.tries(any(r));
            case 10: return x.waits(any(r));
            case 11: return x.undo();
            case 12: return x.thing(any(r), any(r));
            case 13: return x.harm(any(r), any(r));
            case 14: return x.open(any(r));
            case 15: return x.gap();
            case 16: return x.cover(any(r));
            case 17: return x.round(any(r));
            case 18: return x.cheapest(any(r), any(r));
            case 19: return x.defended(any(r), any(r));
            case 20: return x.enough(any(r));
            case 21: return x.odds(any(r), any(r), any(r));
            case 22: return x.hitBy(any(r), any(r), any(r));
            case 23: return x.terms();
            case 24: return x.image(any(r));
            case 25: return x.restore(any(r));
            case 26: return x.kind(any(r));
            case 27: return x.as(any(r), any(r));
            case 28: return x.ask(any(r), any(r));
            case 29: return x.trace(any(r));
            case 30: return x.count(any(r));
            case 31: return x.status();
            default: return x.row(r.nextInt(8), r.nextInt(3), r.nextInt(41));
        }
    }
}
