import java.lang.reflect.InvocationTargetException;
import java.lang.reflect.Method;
import java.util.ArrayList;
import java.util.HashMap;
import java.util.List;
import java.util.Map;

/** A run of calls kept as data, so that it can be played on new objects as often as a test wants, with a call more. */
final class Run {
    /** "An object is used for at most 512 calls after it has been made." */
    static final int CALLS = 512;

    private record Call(String name, int[] arguments) { }

    private static final Map<String, Method> FACE = face();

    private final List<Call> calls = new ArrayList<>();

    private static Map<String, Method> face() {
        Map<String, Method> face = new HashMap<>();
        for (Method m : AllSworn.class.getDeclaredMethods()) {
            if (java.lang.reflect.Modifier.isPublic(m.getModifiers())) {
                face.put(m.getName(), m);
            }
        }
        return face;
    }

    Run then(String name, int... arguments) {
        Run more = new Run();
        more.calls.addAll(calls);
        more.calls.add(new Call(name, arguments));
        return more;
    }

    Run fed(String text) {
        Run more = this;
        for (char letter : text.toCharArray()) {
            more = more.then("feed", letter);
        }
        return more;
    }

    Run told(String text) {
        return fed(text).then("realm");
    }

    Run waited(int days) {
        Run more = this;
        for (int left = days; left > 0; left -= 60) {
            more = more.then("waits", Math.min(60, left));
        }
        return more;
    }

    Live play() {
        Live live = new Live();
        for (Call c : calls) {
            live.call(c.name, c.arguments);
        }
        return live;
    }

    /** An object whose calls are counted: a test that asks for more than is promised is wrong itself. */
    static final class Live {
        private final AllSworn x = new AllSworn();
        private int calls = 0;

        int call(String name, int... arguments) {
            calls++;
            if (calls > CALLS) {
                throw new IllegalStateException("the test's own run is too long");
            }
            Object[] boxed = new Object[arguments.length];
            for (int i = 0; i < boxed.length; i++) {
                boxed[i] = arguments[i];
            }
            try {
                return (Integer) FACE.get(name).invoke(x, boxed);
            } catch (IllegalAccessException | InvocationTargetException e) {
                throw new IllegalStateException(name + " threw", e);
            }
        }
    }
}
