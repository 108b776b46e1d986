/** Each sentence of the document that sets a bound to TEXTS and FAULTS (Terms 1; promises 6 to 8), from both sides. */
public final class EdgesOfTextsTest {
    private static final Due due = new Due("EdgesOfTextsTest");
    private static final int MOST = Integer.MAX_VALUE, LEAST = Integer.MIN_VALUE;
    private static final String SORTS = "pmyfl", FIGURES = "0123456789";
    // No text without a FAULT is longer: 117 bytes.
    private static final String LONGEST = "b040;" + "p009,020;".repeat(8) + "h255;".repeat(8);

    public static void main(String[] args) {
        bytes();
        tapeOf120();
        tapeIsEmptyThen();
        longestText();
        everyByteEverywhere();
        threeFiguresAtMost();
        term();
        far();
        price();
        sets();
        eightThings();
        eightHarms();
        noneOfThem();
        thingsAheadOfHarms();
        leastOfOneToken();
        firstOfSeveral();
        theEnd();
        allStays();
        latestFault();
        inPlaceOfTheOneBefore();
        noneAtFirst();
        due.end();
    }

    private static AllSworn fed(String text) {
        AllSworn x = new AllSworn();
        Due.feed(x, text);
        return x;
    }

    private static void good(String text, int things) {
        AllSworn x = fed(text);
        due.is("'" + text + "'", x.realm(), things);
        due.is("'" + text + "' fault()", x.fault(), 0);
        due.is("'" + text + "' THINGS", x.count(1), things);
    }

    private static void wrong(String text, int number, int place) {
        AllSworn x = fed(text);
        due.is("'" + text + "'", x.realm(), Due.FAULTS - place);
        due.is("'" + text + "' fault()", x.fault(), number);
        due.is("'" + text + "' tape", x.count(7), 0);
        due.is("'" + text + "' no REALM", x.terms(), Due.STATE);
    }

    /** "A byte (0 to 255) comes behind the tape: how many it has. BAD". */
    private static void bytes() {
        for (int letter : new int[] {0, 1, 127, 128, 254, 255}) {
            due.is("feed(" + letter + ")", new AllSworn().feed(letter), 1);
        }
        AllSworn x = new AllSworn();
        for (int letter : new int[] {LEAST, -256, -1, 256, 257, 256 + 'b', MOST}) {
            due.is("feed(" + letter + ")", x.feed(letter), Due.BAD);
            due.is("no byte came", x.count(7), 0);
        }
    }

    /** "THE TAPE has at most 120 bytes"; "BAD; FULL". */
    private static void tapeOf120() {
        AllSworn x = new AllSworn();
        for (int n = 1; n <= 120; n++) {
            due.is("byte " + n, x.feed(n == 1 ? 'b' : '1'), n);
        }
        for (int letter : new int[] {0, 'b', 255}) {
            due.is("one more", x.feed(letter), Due.FULL);
        }
        for (int letter : new int[] {LEAST, -1, 256, MOST}) {
            due.is("BAD ahead of FULL", x.feed(letter), Due.BAD);
        }
        due.is("120", x.count(7), 120);
        due.is("what came is read", x.realm(), Due.FAULTS - 1);
    }

    /** "The tape, empty then, is read", behind a FAULT too. */
    private static void tapeIsEmptyThen() {
        AllSworn x = fed("b1;p0,0;");
        due.is("8 bytes", x.count(7), 8);
        due.is("realm()", x.realm(), 1);
        due.is("none", x.count(7), 0);
        due.is("an empty text", x.realm(), Due.FAULTS);
        Due.feed(x, " ".repeat(119));
        due.is("119 bytes", x.count(7), 119);
        due.is("realm()", x.realm(), Due.FAULTS);
        due.is("none behind a FAULT", x.count(7), 0);
        for (int n = 1; n <= 120; n++) {
            due.is("byte " + n + " anew", x.feed('b'), n);
        }
        due.is("one more", x.feed('b'), Due.FULL);
    }

    private static void longestText() {
        due.is("its bytes", LONGEST.length(), 117);
        AllSworn x = fed(LONGEST);
        due.is("the longest", x.realm(), 8);
        due.is("TERM", x.count(5), 40);
        due.is("HARMS", x.count(2), 8);
        due.is("FAR", x.thing(7, 0), 9);
        due.is("PRICE", x.thing(7, 1), 20);
        due.is("SET", x.harm(7, 0), 255);
        due.is("its PRICE", x.harm(7, 2), 160);
        wrong(LONGEST + "h", 3, 117);
        wrong(LONGEST + "h1;", 3, 117);
        wrong(LONGEST + "p", 1, 117);
        wrong(LONGEST + " ", 1, 117);
        wrong(LONGEST.substring(0, 116), 1, 116);
    }

    /** "TOKENS: letters a to z (each by itself), NUMBERS, SIGNS , and ; nothing else, no blanks." */
    private static void everyByteEverywhere() {
        everyByte("", "b", "");
        everyByte("b", "123456789", "0");
        everyByte("b1", ";0123456789", "");
        everyByte("b4", ";0", "");
        everyByte("b1;", SORTS + "h", "");
        everyByte("b1;p", FIGURES, "");
        everyByte("b1;p0", "," + FIGURES, "");
        everyByte("b1;p0,", FIGURES, "");
        everyByte("b1;p0,1", ";" + FIGURES, "");
        everyByte("b1;p0,1;", SORTS + "h", "");
        everyByte("b1;p0,1;h", "1", "023456789");
        everyByte("b1;p0,1;h1", ";", "");
        everyByte("b1;p0,1;h1;", "h", "");
    }

    /** Behind this text these letters go on, these are a NUMBER that is not as told; all others cannot stand there. */
    private static void everyByte(String text, String goOn, String notAsTold) {
        boolean amidNumber = !text.isEmpty() && FIGURES.indexOf(text.charAt(text.length() - 1)) >= 0;
        for (int letter = 0; letter < 256; letter++) {
            AllSworn x = fed(text);
            x.feed(letter);
            int answer = x.realm();
            int end = text.length() + 1;
            String call = "'" + text + "' and byte " + letter;
            if (goOn.indexOf(letter) >= 0) {
                due.holds(call + " goes on: " + answer, answer >= 0 && letter == ';' || answer == Due.FAULTS - end);
            } else if (amidNumber && FIGURES.indexOf(letter) >= 0) {
                due.is(call + " is a NUMBER too great", answer, Due.FAULTS - (end - 2));
                due.is(call + " fault()", x.fault(), 2);
            } else {
                due.is(call, answer, Due.FAULTS - (end - 1));
                due.is(call + " fault()", x.fault(), notAsTold.indexOf(letter) >= 0 ? 2 : 1);
            }
        }
    }

    /** "NUMBERS (figures, 3 at most)". */
    private static void threeFiguresAtMost() {
        good("b1;", 0);
        good("b01;", 0);
        good("b001;", 0);
        wrong("b0001;", 1, 1);
        wrong("b0040;", 1, 1);
        wrong("b1000;", 1, 1);
        wrong("b999;", 2, 1);
        good("b1;p009,020;", 1);
        wrong("b1;p0009,020;", 1, 4);
        wrong("b1;p009,0020;", 1, 8);
        good("b1;p0,0;h001;", 1);
        wrong("b1;p0,0;h0001;", 1, 9);
    }

    /** "(TERM 1 to 40.)" */
    private static void term() {
        for (String least : new String[] {"1", "01", "001"}) {
            due.is("TERM " + least, Due.told("b" + least + ";").count(5), 1);
        }
        for (String most : new String[] {"40", "040"}) {
            due.is("TERM " + most, Due.told("b" + most + ";").count(5), 40);
        }
        for (String none : new String[] {"0", "00", "000", "41", "041", "42", "99", "100", "256", "999"}) {
            wrong("b" + none + ";", 2, 1);
            wrong("b" + none, 2, 1);
        }
    }

    /** "thing: SORT FAR , PRICE ; (.. 0 to 9; ..)" */
    private static void far() {
        for (char sort : SORTS.toCharArray()) {
            due.is("FAR 0", Due.told("b1;" + sort + "0,5;").thing(0, 0), 0);
            due.is("FAR 9", Due.told("b1;" + sort + "9,5;").thing(0, 0), 9);
            due.is("FAR 009", Due.told("b1;" + sort + "009,5;").thing(0, 0), 9);
            for (String none : new String[] {"10", "010", "11", "90", "256", "999"}) {
                wrong("b1;" + sort + none + ",5;", 2, 4);
            }
        }
    }

    /** "thing: SORT FAR , PRICE ; (.. 0 to 20; ..)" */
    private static void price() {
        for (char sort : SORTS.toCharArray()) {
            due.is("PRICE 0", Due.told("b1;" + sort + "5,0;").thing(0, 1), 0);
            due.is("PRICE 20", Due.told("b1;" + sort + "5,20;").thing(0, 1), 20);
            due.is("PRICE 020", Due.told("b1;" + sort + "5,020;").thing(0, 1), 20);
            for (String none : new String[] {"21", "021", "30", "256", "999"}) {
                wrong("b1;" + sort + "5," + none + ";", 2, 6);
            }
        }
    }

    /** "harm: h SET ; (bits of THINGS told, one at least ..)" */
    private static void sets() {
        for (int things = 0; things <= 8; things++) {
            String told = "b1;" + "p0,0;".repeat(things);
            int all = (1 << things) - 1;
            int place = told.length() + 1;
            for (int set : new int[] {1, all / 2, all - 1, all}) {
                if (set > 0 && set <= all) {
                    AllSworn x = Due.told(told + "h" + set + ";");
                    due.is("h" + set + " of " + things, x.harm(0, 0), set);
                }
            }
            wrong(told + "h0;", 2, place);
            wrong(told + "h000;", 2, place);
            wrong(told + "h" + (all + 1) + ";", 2, place);
            wrong(told + "h999;", 2, place);
            wrong(told + "h999", 2, place);
        }
    }

    /** "THINGS 0 .. 7, 8 at most"; FAULT "3 a thing .. more than there is room for (its letter)". */
    private static void eightThings() {
        for (char sort : SORTS.toCharArray()) {
            String seven = "b1;" + "p0,0;".repeat(7);
            String eight = seven + sort + "0,0;";
            good(seven, 7);
            good(eight, 8);
            for (String rest : new String[] {"", "0", "0,0;", "99", ";", " "}) {
                wrong(eight + sort + rest, 3, 43);
            }
            AllSworn x = Due.told(eight);
            due.is("THING 7", x.kind(7), SORTS.indexOf(sort) + 1);
            due.is("no THING 8", x.kind(8), Due.BAD);
        }
    }

    /** "HARMS 0 .. 7, 8 at most"; FAULT "3 .. a harm more than there is room for (its letter)". */
    private static void eightHarms() {
        String seven = "b1;p0,0;" + "h1;".repeat(7);
        good(seven, 1);
        good(seven + "h1;", 1);
        for (String rest : new String[] {"", "1;", "0;", "999", ";", " "}) {
            wrong(seven + "h1;h" + rest, 3, 32);
        }
        AllSworn x = Due.told(seven + "h1;");
        due.is("HARM 7", x.harm(7, 0), 1);
        due.is("no HARM 8", x.harm(8, 0), Due.BAD);
        AllSworn y = Due.told(seven);
        due.is("HARM 6", y.harm(6, 0), 1);
        due.is("no HARM 7", y.harm(7, 0), Due.BAD);
    }

    /** "realm: b TERM ; { thing } { harm }": there may be none of them. */
    private static void noneOfThem() {
        good("b1;", 0);
        good("b1;l0,0;", 1);
        AllSworn x = Due.told("b1;");
        due.is("THINGS", x.count(1), 0);
        due.is("HARMS", x.count(2), 0);
        due.is("no THING 0", x.thing(0, 0), Due.BAD);
        due.is("no HARM 0", x.harm(0, 0), Due.BAD);
        due.is("yet there is a REALM", x.waits(1), 1);
    }

    private static void thingsAheadOfHarms() {
        for (char sort : SORTS.toCharArray()) {
            wrong("b1;p0,0;h1;" + sort + "0,0;", 1, 11);
            wrong("b1;p0,0;h1;" + sort, 1, 11);
        }
        wrong("b1;b1;", 1, 3);
        wrong("p0,0;", 1, 0);
        wrong("h1;", 1, 0);
    }

    /** "of one TOKEN the least": what cannot stand there is not asked for its value, or for room. */
    private static void leastOfOneToken() {
        String eight = "b1;" + "p0,0;".repeat(8);
        wrong("999", 1, 0);
        wrong("b1;999", 1, 3);
        wrong("b1;p0,0;999", 1, 8);
        wrong(eight + "h1;p", 1, 46);
        wrong(eight + "h1;".repeat(8) + "p", 1, 67);
        wrong(eight + "9", 1, 43);
        wrong(eight + "h1;".repeat(8) + "9", 1, 67);
        wrong("b99999;", 1, 1);
    }

    /** "the first TOKEN that has one (its first byte)". */
    private static void firstOfSeveral() {
        wrong("b41;p10,21;h9;#", 2, 1);
        wrong("b40;p10,21;h9;#", 2, 5);
        wrong("b40;p9,21;h9;#", 2, 7);
        wrong("b40;p9,20;h9;#", 2, 11);
        wrong("b40;p9,20;h1;#", 1, 13);
        wrong("b40#p10", 1, 3);
        wrong("#b41", 1, 0);
        wrong("b040;p010,0;", 2, 6);
        wrong("b040;p000,021;", 2, 10);
        wrong("b1;" + "p0,0;".repeat(8) + "p99,99;#", 3, 43);
    }

    /** "1 it cannot stand there, or is none (the end: how many bytes there are)". */
    private static void theEnd() {
        String whole = "b12;p2,15;l9,3;h2;h3;";
        for (int n = 0; n <= whole.length(); n++) {
            String begun = whole.substring(0, n);
            boolean isWhole = n == 4 || n == 10 || n == 15 || n == 18 || n == 21;
            if (isWhole) {
                good(begun, n < 10 ? 0 : n < 15 ? 1 : 2);
            } else {
                wrong(begun, 1, n);
            }
        }
    }

    /** "-1000100 less the place of a FAULT: all stays." */
    private static void allStays() {
        Run run = new Run().told("b12;p2,5;m1,7;y0,3;f1,9;h3;h12;").then("row", 2, 1, 5).then("set", 2, 5, 1)
            .then("askFor", 0).then("image", 1).then("tries", 1).then("ask", 1, 0);
        for (String text : new String[] {"", "b0;", "b3;p1,1;h1;h2;", "b3;p1,1;h1;p", "b3;" + "p1,1;".repeat(9)}) {
            // The FAULT's own number is told, so both have it.
            Run same = run.told(text);
            Run without = new Run().told(text).told("b12;p2,5;m1,7;y0,3;f1,9;h3;h12;").then("row", 2, 1, 5)
                .then("set", 2, 5, 1).then("askFor", 0).then("image", 1).then("tries", 1).then("ask", 1, 0);
            due.holds("'" + text + "': all stays", Looks.at(same).equals(Looks.at(without)));
            due.is("status() stays", same.play().call("status"), 2);
        }
    }

    /** fault: "The number of the latest FAULT; 0 before one." */
    private static void latestFault() {
        AllSworn x = new AllSworn();
        due.is("before one", x.fault(), 0);
        Due.feed(x, "b1;");
        x.realm();
        due.is("before one, behind a good text", x.fault(), 0);
        String[] texts = {"b41;", "q", "b1;" + "p0,0;".repeat(9), "b1;p0,0;" + "h1;".repeat(9), "b0", ""};
        int[] numbers = {2, 1, 3, 3, 2, 1};
        for (int k = 0; k < texts.length; k++) {
            Due.feed(x, texts[k]);
            due.holds("a FAULT", x.realm() <= Due.FAULTS);
            due.is("the latest", x.fault(), numbers[k]);
            Due.feed(x, "b1;");
            due.is("a good text", x.realm(), 0);
            due.is("the latest yet", x.fault(), numbers[k]);
        }
    }

    /** "A REALM that is read stands in place of the one before: DAY 0, nothing has SWORN, he was HIT by nothing; ..". */
    private static void inPlaceOfTheOneBefore() {
        String[] texts = {"b1;", "b9;y1,1;", "b7;p0,0;h1;", "b12;l3,1;m1,7;y0,3;f1,9;h3;h12;", LONGEST};
        for (String first : texts) {
            for (String text : texts) {
                Run lived = new Run().told(first).then("askFor", 0).then("tries", 0).then("waits", 20).then("tries", 0)
                    .then("askFor", 1).then("askFor", 7).told(text);
                Run plain = new Run().told(text);
                due.holds("'" + text + "' in place of '" + first + "'", Looks.at(lived).equals(Looks.at(plain)));
            }
        }
        AllSworn x = Due.told("b5;p0,0;h1;");
        x.askFor(0);
        x.waits(9);
        x.tries(0);
        Due.feed(x, "b5;p0,0;h1;");
        x.realm();
        int[] counts = {0, 1, 1, 0, 0, 5, 0, 0};
        for (int what = 0; what < 8; what++) {
            due.is("count(" + what + ")", x.count(what), counts[what]);
        }
        due.is("nothing has SWORN", x.thing(0, 2), Due.NONE);
        due.is("no ACT can be undone", x.undo(), Due.STATE);
    }

    /** "A REALM .. (none at first)": promise 1. */
    private static void noneAtFirst() {
        AllSworn x = new AllSworn();
        for (int what = 0; what < 8; what++) {
            due.is("count(" + what + ")", x.count(what), 0);
        }
        int[] state = {x.waits(1), x.undo(), x.open(0), x.gap(), x.cover(0), x.round(-2), x.cheapest(0, 0),
            x.defended(0, 0), x.enough(0), x.hitBy(0, 0, 1), x.terms(), x.image(0), x.restore(0), x.image(1), x.restore(1)};
        for (int answer : state) {
            due.is("STATE", answer, Due.STATE);
        }
        int[] bad = {x.askFor(0), x.tries(0), x.thing(0, 0), x.harm(0, 0), x.odds(0, 0, 0), x.kind(0), x.as(0, 0),
            x.ask(0, 0)};
        for (int answer : bad) {
            due.is("BAD", answer, Due.BAD);
        }
        due.is("trace(0)", x.trace(0), Due.NONE);
    }
}
