import java.io.IOException;
import java.lang.reflect.Constructor;
import java.lang.reflect.Field;
import java.lang.reflect.Method;
import java.lang.reflect.Modifier;
import java.nio.file.Files;
import java.nio.file.Path;
import java.util.ArrayList;
import java.util.HashSet;
import java.util.List;
import java.util.Set;
import java.util.regex.Matcher;
import java.util.regex.Pattern;

/** The face of the document, and what of LANGUAGE.md can be seen from outside or by the words of the source. */
public final class LanguageTest {
    private static final Due due = new Due("LanguageTest");
    private static final String[] FACE = {"row/3", "set/3", "copy/5", "drop/1", "feed/1", "realm/0", "fault/0",
        "askFor/1", "tries/1", "waits/1", "undo/0", "thing/2", "harm/2", "open/1", "gap/0", "cover/1", "round/1",
        "cheapest/2", "defended/2", "enough/1", "odds/3", "hitBy/3", "terms/0", "image/1", "restore/1", "kind/1",
        "as/2", "ask/2", "trace/1", "count/1", "status/0"};

    public static void main(String[] args) throws IOException, IllegalAccessException {
        face();
        constants();
        nestedClasses();
        words();
        names();
        methodsAreShort();
        due.end();
    }

    private static void face() {
        due.is("public and final", AllSworn.class.getModifiers(), Modifier.PUBLIC | Modifier.FINAL);
        Constructor<?>[] made = AllSworn.class.getDeclaredConstructors();
        due.is("one constructor", made.length, 1);
        due.is("of no arguments", made[0].getParameterCount(), 0);
        due.holds("that is public", Modifier.isPublic(made[0].getModifiers()));
        Set<String> face = new HashSet<>(List.of(FACE));
        Set<String> names = new HashSet<>();
        for (String each : FACE) {
            names.add(each.substring(0, each.indexOf('/')));
        }
        int seen = 0;
        for (Method m : AllSworn.class.getDeclaredMethods()) {
            if (Modifier.isPublic(m.getModifiers())) {
                seen++;
                due.holds(m + " is told", face.contains(m.getName() + "/" + m.getParameterCount()));
                due.holds(m + " answers int", m.getReturnType() == int.class && !Modifier.isStatic(m.getModifiers()));
                for (Class<?> type : m.getParameterTypes()) {
                    due.holds(m + " takes ints", type == int.class);
                }
            } else {
                due.holds(m + " is private", Modifier.isPrivate(m.getModifiers()));
                due.holds(m + " has a name of its own", !names.contains(m.getName()));
            }
        }
        due.is("methods", seen, FACE.length);
    }

    private static void constants() throws IllegalAccessException {
        int seen = 0;
        for (Field f : AllSworn.class.getDeclaredFields()) {
            if (Modifier.isPublic(f.getModifiers())) {
                seen++;
                due.holds(f + " is a constant", f.getType() == int.class
                    && Modifier.isStatic(f.getModifiers()) && Modifier.isFinal(f.getModifiers()));
                List<String> order = List.of("NONE", "BAD", "STATE", "FULL");
                due.is(f.getName(), f.getInt(null), -1000000 - order.indexOf(f.getName()));
            } else {
                due.holds(f + " is private", Modifier.isPrivate(f.getModifiers()));
            }
        }
        due.is("constants", seen, 4);
    }

    private static void nestedClasses() {
        Class<?>[] nested = AllSworn.class.getDeclaredClasses();
        due.holds("twelve classes at most", nested.length + 1 <= 12);
        List<Class<?>> all = new ArrayList<>(List.of(nested));
        all.add(AllSworn.class);
        for (Class<?> c : all) {
            due.holds(c + " is static", c == AllSworn.class || Modifier.isStatic(c.getModifiers()));
            int fields = 0;
            for (Field f : c.getDeclaredFields()) {
                due.holds(f + ", if static, is a constant", !Modifier.isStatic(f.getModifiers())
                    || Modifier.isFinal(f.getModifiers()) && f.getType() == int.class);
                fields += Modifier.isStatic(f.getModifiers()) ? 0 : 1;
            }
            due.holds(c + " has twenty fields at most", fields <= 20);
            for (Method m : c.getDeclaredMethods()) {
                due.holds(m + " takes seven at most", m.getParameterCount() <= 7);
                due.holds(m + " has a name of its own", c == AllSworn.class || !isOfTheFace(m.getName()));
            }
        }
    }

    private static boolean isOfTheFace(String name) {
        for (String each : FACE) {
            if (each.startsWith(name + "/")) {
                return true;
            }
        }
        return false;
    }

    private static String source() throws IOException {
        String text = Files.readString(Path.of("src/main/java/AllSworn.java"));
        return text.replaceAll("(?s)/\\*.*?\\*/", "").replaceAll("//[^\n]*", "");
    }

    private static void words() throws IOException {
        String source = source();
        String[] forbidden = {"throw", "throws", "try", "catch", "finally", "synchronized", "assert", "native",
            "package", "var", "while", "do", "hashCode", "toString", "Random", "Thread", "System\\.(?!arraycopy)",
            "Exact\\(", "Integer\\.(?!bitCount\\()", "Math\\.(?!max\\()", "import (?!java\\.util\\.Arrays;)", "->", "::", "@"};
        for (String word : forbidden) {
            boolean plain = word.matches("[A-Za-z]+");
            Matcher found = Pattern.compile(plain ? "\\b" + word + "\\b" : word).matcher(source);
            due.holds("no '" + word + "'", !found.find());
        }
        due.holds("a parser of the words sees something", source.contains("public final class AllSworn"));
        for (int i = 0; i < source.length(); i++) {
            due.holds("sign " + i + " is plain", source.charAt(i) < 128 && source.charAt(i) != '\t');
        }
    }

    /** Of the library nothing is used but what rule 4 tells; all other names are of classes inside, or of constants. */
    private static void names() throws IOException {
        Set<String> known = new HashSet<>(List.of("AllSworn", "Arrays", "System", "Math", "Integer"));
        for (Class<?> c : AllSworn.class.getDeclaredClasses()) {
            known.add(c.getSimpleName());
        }
        Matcher name = Pattern.compile("\\b[A-Z]\\w*").matcher(source());
        while (name.find()) {
            boolean isConstant = name.group().matches("[A-Z][A-Z_]+");
            due.holds(name.group() + " is known", isConstant || known.contains(name.group()));
        }
    }

    /** Methods stand four or eight blanks in, and end with a brace at the same place. */
    private static void methodsAreShort() throws IOException {
        String[] lines = source().split("\n");
        int methods = 0;
        for (int i = 0; i < lines.length; i++) {
            Matcher head = Pattern.compile("^( {4}| {8})[a-zA-Z].*\\) \\{$").matcher(lines[i]);
            if (head.find()) {
                String blanks = head.group(1);
                int end = i;
                while (end < lines.length && !lines[end].equals(blanks + "}")) {
                    end++;
                }
                methods++;
                due.holds("short: " + lines[i].trim(), end - i < 60);
            }
        }
        due.holds("methods were seen", methods > 80);
    }
}
