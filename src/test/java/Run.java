import java.lang.reflect.InvocationTargetException;
import java.lang.reflect.Method;
import java.util.ArrayList;
import java.util.HashMap;
import java.util.List;
import java.util.Map;

/**
 * Calls on one new object, told as texts such as "arm(20, 1, 0)", each with the answer that is due; a Model goes along,
 * so that what a test does not tell is compared, too.
 */
final class Run {
    /** What STATUS counts a refused call as. */
    static final int AS_BAD = 0, AS_NO = 1, AS_FULL = 2;
    private static final int MOST_CALLS = 512;
    private static final Map<String, Method> FACE = face();

    private final ThrowHook x = new ThrowHook();
    private final Model model = new Model();
    private int calls = 0;

    static Run anew() {
        return new Run();
    }

    /** One ARM, HOOK and DART by which a throw EARLY by 19 has one ROUND, HAND and END: 60 times strength by mass. */
    static Run oneRound(int strength, int mass, int stiff, int tail) {
        return anew().does("arm(20, " + strength + ", 0)", "hook(0, 0, 0)",
                "dart(" + mass + ", " + stiff + ", 0, " + tail + ")");
    }

    /** Some of each: two ARMS, HOOKS, DARTS, both GROUPS, seven THORNS, two BUTTS, a plan of two throws, one IMAGE. */
    static Run ready() {
        Run run = anew().does("arm(50, 40, 3)", "arm(60, 70, 6)", "hook(20, 10, 10)", "hook(40, 30, 25)",
                "dart(70, 30, 5, 0)", "dart(80, 31, 12, 4)", "tries(5, 2)", "story(1, 0, 15)", "person(0, 40, true)",
                "person(1, 50, false)", "person(1, 40, true)", "butt(9)", "butt(10)", "layer(2, 1, 5)", "layer(5, 0, 4)",
                "known(1, 2, 20)", "image(0)");
        for (int i = 0; i < 7; i++) {
            run.does("thorn(" + (10 + 7 * i) + ", " + i % 3 + ", " + (8 + i % 4) + ", " + i % 2 + ")");
        }
        return run.types("arm 20 1 0;hook 0 0 0;dart 60 1 0 0;throw 0 0 0;throw 1 5 0;");
    }

    /** As many of each as there may be. */
    static Run full() {
        Run run = anew();
        for (int i = 0; i < 4; i++) {
            run.does("arm(50, 40, 3)", "hook(20, 10, 10)", "dart(70, 30, 5, 0)");
        }
        for (int i = 0; i < 16; i++) {
            run.does("person(" + i % 2 + ", " + 9 * i + ", " + (i % 3 == 0) + ")");
        }
        for (int i = 0; i < 12; i++) {
            run.does("thorn(" + (5 + 8 * i) + ", " + i % 4 + ", 10, " + i % 2 + ")");
        }
        for (int i = 0; i < 6; i++) {
            run.does("butt(10)");
        }
        String text = "arm20 1 0;hook0 0 0;dart60 1 0 0;" + "throw1 9 0;".repeat(12);
        return run.types(text + " ".repeat(200 - text.length())).does("image(0)", "image(1)");
    }

    /** Nothing that could be shared out: no PRIOR above 0, and a plan with a FAULT. */
    static Run barren() {
        return anew().does("story(0, 1, 0)", "story(1, 1, 0)", "story(2, 1, 0)", "story(3, 1, 0)", "prior(0, 0)",
                "prior(1, 0)", "prior(2, 0)").types("x");
    }

    /** The answer; no object is asked more often than the document tells. */
    long call(String text) {
        calls++;
        Check.isTrue("no more than " + MOST_CALLS + " calls, at " + text, calls <= MOST_CALLS);
        long got = answer(x, name(text), numbers(text));
        Check.due(Check.promise(), text + ", by the Model", got, model.answer(name(text), numbers(text)));
        return got;
    }

    Run is(String text, long want) {
        Check.due(Check.promise(), text, call(text), want);
        return this;
    }

    /** Calls that are not refused, whatever else they answer. */
    Run does(String... texts) {
        for (String text : texts) {
            long got = call(text);
            Check.isTrue(text + " is not refused, but answered " + got, got >= 0);
        }
        return this;
    }

    /** A refused call: its answer, one more in STATUS, and nothing else. */
    Run refused(String text, long want, int status) {
        long digest = call("digest()");
        long[] before = status();
        is(text, want);
        long[] behind = status();
        for (int i = 0; i < 3; i++) {
            Check.due(38, text + ", then status(" + i + ")", behind[i], before[i] + (i == status ? 1 : 0));
        }
        Check.due(Check.promise(), text + ", then digest()", call("digest()"), digest);
        return this;
    }

    /** A call that STATUS does not count, though its answer be below 0. */
    Run counted(String text, long want) {
        long[] before = status();
        is(text, want);
        long[] behind = status();
        for (int i = 0; i < 3; i++) {
            Check.due(38, text + ", then status(" + i + ")", behind[i], before[i]);
        }
        return this;
    }

    private long[] status() {
        return new long[] {call("status(0)"), call("status(1)"), call("status(2)")};
    }

    /** A call that answers 1 and leaves THE FRACTION, of one limb at most above and below. */
    Run share(String text, long above, long below) {
        is(text, 1);
        return fraction(above, below);
    }

    Run fraction(long above, long below) {
        is("sign(0)", Long.signum(above)).is("sign(1)", above == 0 ? 0 : 1).is("sign(2)", 1);
        return is("limb(0, 0)", above == 0 ? -1 : Math.abs(above)).is("limb(1, 0)", below);
    }

    /** Types a text of characters 0 to 255, in pieces of eight. */
    Run types(String text) {
        for (int at = 0; at < text.length(); at += 8) {
            int n = Math.min(8, text.length() - at);
            long v = 0;
            for (int i = 0; i < n; i++) {
                v = v << 8 | text.charAt(at + i);
            }
            does("type(" + v + ", " + n + ")");
        }
        return this;
    }

    // ---- a call by its text

    /** The numbers of a call; a boolean is 1 or 0. */
    private static long[] numbers(String text) {
        String list = text.substring(text.indexOf('(') + 1, text.length() - 1);
        if (list.isEmpty()) {
            return new long[0];
        }
        List<Long> found = new ArrayList<>();
        for (String one : list.split(", ")) {
            boolean isFlag = one.equals("true") || one.equals("false");
            found.add(isFlag ? (one.equals("true") ? 1L : 0L) : Long.parseLong(one));
        }
        return found.stream().mapToLong(one -> one).toArray();
    }

    private static String name(String text) {
        return text.substring(0, text.indexOf('('));
    }

    private static Map<String, Method> face() {
        Map<String, Method> found = new HashMap<>();
        for (Method method : ThrowHook.class.getMethods()) {
            if (method.getDeclaringClass() == ThrowHook.class) {
                found.put(method.getName(), method);
            }
        }
        return found;
    }

    static long answer(ThrowHook x, String name, long[] a) {
        Method method = FACE.get(name);
        if (method == null) {
            throw new IllegalArgumentException(name);
        }
        Class<?>[] types = method.getParameterTypes();
        if (types.length != a.length) {
            throw new IllegalArgumentException(method + " with " + a.length + " numbers");
        }
        Object[] values = new Object[a.length];
        for (int i = 0; i < a.length; i++) {
            if (types[i] == boolean.class) {
                values[i] = a[i] == 1;
            } else if (types[i] == long.class) {
                values[i] = a[i];
            } else {
                values[i] = Math.toIntExact(a[i]);
            }
        }
        try {
            return ((Number) method.invoke(x, values)).longValue();
        } catch (IllegalAccessException | InvocationTargetException e) {
            throw new IllegalStateException(method.getName(), e);
        }
    }
}
