import java.io.IOException;
import java.nio.file.Files;
import java.nio.file.Path;
import java.util.ArrayList;
import java.util.Arrays;
import java.util.HashMap;
import java.util.LinkedHashMap;
import java.util.List;
import java.util.Map;
import java.util.Set;
import java.util.TreeSet;
import java.util.regex.Matcher;
import java.util.regex.Pattern;
import java.util.stream.Stream;

/** README.md: its examples are played, line by line; what its tables and lists name is there, and nothing is left out. */
public final class ReadmeTest {
    private static final Due due = new Due("ReadmeTest");

    // A line of an example has one of these forms; another one is a fault of the page.
    private static final Pattern MADE = Pattern.compile("AllSworn (\\w) = new AllSworn\\(\\);");
    private static final Pattern FED =
        Pattern.compile("for \\(char c : \"([^\"]+)\"\\.toCharArray\\(\\)\\) (\\w)\\.feed\\(c\\);");
    private static final Pattern AGAIN =
        Pattern.compile("for \\(int k = 0; k < (\\d+); k\\+\\+\\) (\\w)\\.(\\w+)\\(([-\\d, ]*)\\);");
    private static final Pattern ASKED =
        Pattern.compile("(\\w)\\.(\\w+)\\(([-\\d, ]*)\\); +// (-?\\d+|[A-Z]+)(?:: (.+))?");

    private static final Pattern ANSWER = Pattern.compile("\\| `?([A-Z]+)`? \\| (-\\d+) \\| (?:finding (\\d): )?.+ \\|");
    private static final Pattern CALL = Pattern.compile("\\| `(\\w+)\\(([a-z, ]*)\\)` \\| .+ \\| ?(.*?) ?\\|");

    private static final Map<String, Integer> ANSWERS = new HashMap<>();
    private static final Map<String, Run.Live> OBJECTS = new HashMap<>();
    private static final Set<String> SHOWN = new TreeSet<>();
    private static final Map<String, Integer> NAMED = new HashMap<>();

    public static void main(String[] args) throws IOException {
        String page = Files.readString(Path.of("README.md"));
        answers(page);
        examples(page);
        calls(page);
        classesInside(section(page, "## Inside"));
        tests(section(page, "## Tests"));
        due.end();
    }

    private static String section(String page, String head) {
        int start = page.indexOf(head);
        due.holds("there is " + head, start >= 0);
        int end = page.indexOf("\n## ", start + 1);
        return page.substring(Math.max(0, start), end < 0 ? page.length() : end);
    }

    private static void answers(String page) {
        Matcher row = ANSWER.matcher(page);
        while (row.find()) {
            int number = Integer.parseInt(row.group(2));
            ANSWERS.put(row.group(1), number);
            if (row.group(3) != null) {
                due.is("finding " + row.group(1), number, -1000010 - Integer.parseInt(row.group(3)));
            }
        }
        Map<String, Integer> want = new HashMap<>();
        want.put("NONE", AllSworn.NONE);
        want.put("BAD", AllSworn.BAD);
        want.put("STATE", AllSworn.STATE);
        want.put("FULL", AllSworn.FULL);
        want.put("NULL", Due.NULL);
        want.put("PLACE", Due.PLACE);
        want.put("KIND", Due.KIND);
        want.put("SIZE", Due.SIZE);
        want.put("STORE", Due.STORE);
        due.holds("answers " + ANSWERS + " are " + want, ANSWERS.equals(want));
    }

    private static void examples(String page) {
        Matcher block = Pattern.compile("(?s)```java\n(.*?)```").matcher(page);
        int blocks = 0;
        while (block.find()) {
            blocks++;
            for (String line : block.group(1).split("\n")) {
                play(line);
            }
        }
        due.is("blocks", blocks, page.split("```", -1).length / 2);
        due.holds("every call is shown: " + SHOWN, SHOWN.equals(namesOf(face())));
        for (String finding : List.of("NULL", "PLACE", "KIND", "SIZE", "STORE")) {
            due.is("an example of " + finding, NAMED.getOrDefault(finding, 0), ANSWERS.getOrDefault(finding, -1));
        }
    }

    private static void play(String line) {
        Matcher made = MADE.matcher(line);
        Matcher fed = FED.matcher(line);
        Matcher again = AGAIN.matcher(line);
        Matcher asked = ASKED.matcher(line);
        if (made.matches()) {
            due.holds(line + ": a new name", OBJECTS.put(made.group(1), new Run.Live()) == null);
        } else if (fed.matches()) {
            for (char letter : fed.group(1).toCharArray()) {
                due.holds(line, call(fed.group(2), "feed", letter) > 0);
            }
        } else if (again.matches()) {
            for (int k = 0; k < Integer.parseInt(again.group(1)); k++) {
                due.holds(line, call(again.group(2), again.group(3), numbers(again.group(4))) > 0);
            }
        } else if (asked.matches()) {
            check(line, asked);
        } else {
            due.holds("a line that can be played: " + line, false);
        }
    }

    private static void check(String line, Matcher asked) {
        int[] arguments = numbers(asked.group(3));
        String name = asked.group(2);
        String answer = asked.group(4);
        boolean isKnown = face().getOrDefault(name, new String[6]).length == arguments.length;
        due.holds(line + ": a call of the face", isKnown);
        if (!isKnown) {
            return;
        }
        boolean isNumber = answer.matches("-?\\d+");
        // What the class has no constant for is shown as a number, with its name behind.
        due.holds(line + ": a constant", isNumber || Set.of("NONE", "BAD", "STATE", "FULL").contains(answer));
        int want = isNumber ? Integer.parseInt(answer) : ANSWERS.getOrDefault(answer, 0);
        due.is(line, call(asked.group(1), name, arguments), want);
        SHOWN.add(name);
        if (want <= Due.NULL && want >= Due.STORE && asked.group(5) != null) {
            NAMED.put(asked.group(5).split(",")[0], want);
        }
    }

    private static int call(String object, String name, int... arguments) {
        Run.Live x = OBJECTS.get(object);
        if (x == null) {
            throw new IllegalStateException("README.md has not made " + object);
        }
        return x.call(name, arguments);
    }

    private static int[] numbers(String list) {
        return list.isBlank() ? new int[0] : Arrays.stream(list.split(", ")).mapToInt(Integer::parseInt).toArray();
    }

    /** The calls of the source, in its order, with the names of what they take. */
    private static Map<String, String[]> face() {
        Map<String, String[]> face = new LinkedHashMap<>();
        try {
            String source = Files.readString(Path.of("src/main/java/AllSworn.java"));
            Matcher head = Pattern.compile("\n    public int (\\w+)\\(([a-z, ]*)\\) \\{").matcher(source);
            while (head.find()) {
                String takes = head.group(2).replace("int ", "");
                face.put(head.group(1), takes.isEmpty() ? new String[0] : takes.split(", "));
            }
        } catch (IOException e) {
            throw new IllegalStateException(e);
        }
        return face;
    }

    private static Set<String> namesOf(Map<String, String[]> face) {
        return new TreeSet<>(face.keySet());
    }

    /** The tables of all calls: each as in the source, in its order, and beside each what it can answer else. */
    private static void calls(String page) {
        Matcher row = CALL.matcher(section(page, "## All calls"));
        List<String> told = new ArrayList<>();
        Map<String, String> others = new LinkedHashMap<>();
        while (row.find()) {
            told.add(row.group(1) + "(" + row.group(2) + ")");
            others.put(row.group(1), row.group(3));
        }
        List<String> there = new ArrayList<>();
        face().forEach((name, takes) -> there.add(name + "(" + String.join(", ", takes) + ")"));
        due.holds("the calls " + told + " are " + there, told.equals(there));
        for (Map.Entry<String, String> each : others.entrySet()) {
            Set<String> listed = new TreeSet<>();
            for (String one : each.getValue().split(", ")) {
                if (!one.isEmpty()) {
                    listed.add(one.replace("`", ""));
                }
            }
            Set<String> seen = answeredElse(each.getKey(), face().getOrDefault(each.getKey(), new String[0]).length);
            due.holds(each.getKey() + " answers else " + listed + ", seen were " + seen, listed.equals(seen));
        }
    }

    /** What of the refusals a call answers, by many arguments, in states of four sorts. */
    private static Set<String> answeredElse(String name, int takes) {
        Run rows = new Run().then("row", 0, 0, 4).then("row", 1, 2, 4).then("set", 0, 3, 2);
        Run late = new Run().told("b9;p1,4;l0,2;h1;h2;").waited(998).then("image", 0).fed("b".repeat(120));
        Run[] runs = {new Run(), rows.told("b9;p1,4;m1,5;h1;h2;").then("waits", 1), late, new Run().told("b9;")};
        int[] values = takes == 5 ? new int[] {-1, 0, 1, 4, 8}
            : new int[] {Integer.MIN_VALUE, -3, -2, -1, 0, 1, 2, 3, 4, 8, 12, 41, 256, 998, 1100, Integer.MAX_VALUE};
        Set<String> seen = new TreeSet<>();
        for (Run run : runs) {
            int[] at = new int[takes];
            do {
                int[] arguments = new int[takes];
                for (int k = 0; k < takes; k++) {
                    arguments[k] = values[at[k]];
                }
                addOther(seen, run.play().call(name, arguments));
            } while (step(at, values.length));
        }
        return seen;
    }

    private static void addOther(Set<String> seen, int answer) {
        if (answer <= -1000100 && answer >= -1000220) {
            seen.add("a fault");
        }
        ANSWERS.forEach((name, number) -> {
            if (number == answer) {
                seen.add(name);
            }
        });
    }

    private static boolean step(int[] at, int many) {
        for (int k = 0; k < at.length; k++) {
            at[k]++;
            if (at[k] < many) {
                return true;
            }
            at[k] = 0;
        }
        return false;
    }

    private static Set<String> quoted(String part) {
        Set<String> names = new TreeSet<>();
        Matcher name = Pattern.compile("`([A-Z]\\w+)`").matcher(part);
        while (name.find()) {
            names.add(name.group(1));
        }
        return names;
    }

    private static void classesInside(String part) {
        Set<String> there = new TreeSet<>();
        there.add(AllSworn.class.getSimpleName());
        for (Class<?> c : AllSworn.class.getDeclaredClasses()) {
            there.add(c.getSimpleName());
        }
        due.holds("classes " + quoted(part) + " are " + there, quoted(part).equals(there));
    }

    private static void tests(String part) throws IOException {
        Set<String> there = new TreeSet<>();
        try (Stream<Path> files = Files.list(Path.of("src/test/java"))) {
            files.forEach(file -> there.add(file.getFileName().toString().replace(".java", "")));
        }
        due.holds("tests " + quoted(part) + " are " + there, quoted(part).equals(there));
        due.holds(".ci/run is told", part.contains("\n    .ci/run\n"));
        due.holds(".ci/run can be run", Files.isExecutable(Path.of(".ci/run")));
    }
}
