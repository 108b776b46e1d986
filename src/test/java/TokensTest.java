import java.util.ArrayList;
import java.util.List;
import java.util.Random;

/** Promises 7 and 8 beside a model that first cuts a text into TOKENS, on random texts with and without FAULTS. */
public final class TokensTest {
    private record Token(char sort, int place, int value) { }

    private static final Due due = new Due("TokensTest");
    private static final Random random = new Random(5);
    private static final int FAULTLESS = -1;

    private static int fault;

    public static void main(String[] args) {
        int[] seen = new int[4];
        for (int i = 0; i < 60000; i++) {
            String text = hurt(goodText());
            check(text);
            seen[fault]++;
        }
        for (int number = 0; number <= 3; number++) {
            due.holds("FAULT " + number + " was seen often", seen[number] > 300);
        }
        due.end();
    }

    private static void check(String text) {
        AllSworn x = new AllSworn();
        Due.feed(x, text);
        List<Token> tokens = cut(text);
        int place = firstFault(tokens);
        long things = tokens.stream().filter(t -> "pmyfl".indexOf(t.sort) >= 0).count();
        due.is("'" + text + "'", x.realm(), place == FAULTLESS ? things : Due.FAULTS - place);
        due.is("'" + text + "' fault()", x.fault(), fault);
        due.is("'" + text + "' tape", x.count(7), 0);
    }

    /** 9 stands for a NUMBER, ? for what is no TOKEN, ! for the end. */
    private static List<Token> cut(String text) {
        List<Token> tokens = new ArrayList<>();
        for (int i = 0; i < text.length(); ) {
            int end = i;
            while (end < text.length() && Character.getType(text.charAt(end)) == Character.DECIMAL_DIGIT_NUMBER) {
                end++;
            }
            String figures = text.substring(i, end);
            if (figures.isEmpty()) {
                tokens.add(new Token("bpmyflh,;".indexOf(text.charAt(i)) < 0 ? '?' : text.charAt(i), i, 0));
                i++;
            } else {
                boolean number = figures.length() <= 3;
                tokens.add(new Token(number ? '9' : '?', i, number ? Integer.parseInt(figures) : 0));
                i = end;
            }
        }
        tokens.add(new Token('!', text.length(), 0));
        return tokens;
    }

    private static int firstFault(List<Token> tokens) {
        // Each part of the grammar: what may stand, by the part that it is in; a part begins behind each ';'.
        String part = "b9;";
        int within = 0;
        int things = 0;
        int harms = 0;
        int most = 40;
        for (Token t : tokens) {
            boolean begins = within == part.length();
            if (begins && t.sort == '!') {
                fault = 0;
                return FAULTLESS;
            }
            if (begins && harms == 0 && "pmyfl".indexOf(t.sort) >= 0) {
                things++;
                part = t.sort + "9,9;";
                within = 0;
                most = 9;
            } else if (begins && t.sort == 'h') {
                harms++;
                part = "h9;";
                within = 0;
                most = (1 << things) - 1;
            }
            if (within == part.length() || t.sort != part.charAt(within)) {
                return noted(1, t);
            }
            if (t.sort == '9' && (t.value > most || t.value == 0 && (part.startsWith("b") || part.startsWith("h")))) {
                return noted(2, t);
            }
            if (things > 8 || harms > 8) {
                return noted(3, t);
            }
            if (t.sort == ',') {
                most = 20;
            }
            within++;
        }
        throw new IllegalStateException("the model has no end");
    }

    private static int noted(int number, Token t) {
        fault = number;
        return t.place;
    }

    private static String goodText() {
        StringBuilder text = new StringBuilder("b").append(figures(1, 40)).append(';');
        int things = oftenEight();
        for (int t = 0; t < things; t++) {
            text.append("pmyfl".charAt(random.nextInt(5)));
            text.append(figures(0, 9)).append(',').append(figures(0, 20)).append(';');
        }
        int harms = things == 0 ? 0 : oftenEight();
        for (int h = 0; h < harms; h++) {
            text.append('h').append(figures(1, (1 << things) - 1)).append(';');
        }
        return text.toString();
    }

    private static int oftenEight() {
        return random.nextInt(4) == 0 ? 8 : random.nextInt(9);
    }

    private static String figures(int least, int most) {
        String plain = String.valueOf(least + random.nextInt(most - least + 1));
        int zeros = random.nextInt(5) == 0 ? random.nextInt(4 - plain.length()) : 0;
        return "0".repeat(zeros) + plain;
    }

    private static String hurt(String good) {
        StringBuilder text = new StringBuilder(good);
        int hurts = random.nextInt(3);
        for (int i = 0; i < hurts; i++) {
            int at = random.nextInt(text.length() + 1);
            switch (random.nextInt(6)) {
                case 0: text.insert(at, strange()); break;
                case 1: text.insert(at, (char) ('0' + random.nextInt(10))); break;
                case 2: text.insert(at, String.valueOf(random.nextInt(100000))); break;
                case 3: text.delete(at, at + 1 + random.nextInt(2)); break;
                case 4: text.setLength(at); break;
                default: text.append(random.nextBoolean() ? "h1;" : "p1,1;");
            }
        }
        return text.substring(0, Math.min(120, text.length()));
    }

    private static char strange() {
        return random.nextBoolean() ? "bpmyflh,;".charAt(random.nextInt(9)) : (char) random.nextInt(256);
    }
}
