import java.util.Random;

/** Runs of calls by numbered seeds, each answer compared with Model's: ordinary, edge and wrong numbers in all. */
public final class ModelTest {
    private static final int RUNS = 2000;
    private static final int CALLS = 512;
    private static final int[] WILD = {
        Integer.MIN_VALUE, Integer.MAX_VALUE, -1000000, 1000000, -2, -1, 1 << 16, -65536};

    private final Random random;
    private final boolean isDear;

    private ModelTest(long seed) {
        random = new Random(seed);
        isDear = seed % 20 == 0;
    }

    public static void main(String[] args) {
        for (int seed = 0; seed < RUNS; seed++) {
            new ModelTest(seed).run(seed);
        }
        Check.end();
    }

    private void run(int seed) {
        ThrowHook x = new ThrowHook();
        Model model = new Model();
        if (random.nextInt(3) > 0) {
            for (String call : new String[] {"arm", "hook", "dart", "thorn", "thorn", "butt", "person", "person"}) {
                step(seed, x, model, call);
            }
        }
        // The eight ahead and the digest at the end are calls, too.
        for (int i = 9; i < CALLS; i++) {
            String call = Model.CALLS[random.nextInt(Model.CALLS.length)];
            boolean isWaitedFor = call.equals("length") || call.equals("contest") || call.equals("straight");
            step(seed, x, model, isWaitedFor && !isDear && random.nextInt(8) > 0 ? "fling" : call);
            if (call.equals("type") && random.nextInt(2) == 0) {
                i += typePlan(seed, x, model, CALLS - i - 1);
            }
        }
        Check.due(40, "run " + seed + ": digest()", x.digest(), model.answer("digest", new long[0]));
    }

    private void step(int seed, ThrowHook x, Model model, String call) {
        compare(seed, x, model, call, numbers(call));
    }

    private static void compare(int seed, ThrowHook x, Model model, String call, long[] a) {
        long want = model.answer(call, a);
        long got = Run.answer(x, call, a);
        int promise = java.util.Arrays.asList(Model.CALLS).indexOf(call) + 2;
        Check.due(promise, "run " + seed + ": " + call + java.util.Arrays.toString(a), got, want);
    }

    // ---- texts

    /** Clears and types a text that is a plan, or nearly one, and asks for it: how many calls that took. */
    private int typePlan(int seed, ThrowHook x, Model model, int calls) {
        StringBuilder text = new StringBuilder();
        String[] order = {"arm", "hook", "dart"};
        for (int i = random.nextInt(30) == 0 ? 1 : 0; i < 3; i++) {
            item(text, order[i]);
        }
        String[] words = {"arm", "hook", "dart", "throw", "throw", "throw", "throw"};
        for (int i = random.nextInt(16); i > 0; i--) {
            item(text, words[random.nextInt(words.length)]);
        }
        if (random.nextInt(2) == 0) {
            spoil(text);
        }
        int pieces = (text.length() + 7) / 8;
        if (pieces + 4 > calls) {
            return 0;
        }
        compare(seed, x, model, "clear", new long[0]);
        for (int at = 0; at < text.length(); at += 8) {
            int n = Math.min(8, text.length() - at);
            long v = random.nextLong();
            for (int i = 0; i < n; i++) {
                v = v << 8 | text.charAt(at + i);
            }
            compare(seed, x, model, "type", new long[] {v, n});
        }
        compare(seed, x, model, "fault", new long[0]);
        compare(seed, x, model, "plan", new long[] {-1});
        compare(seed, x, model, "plan", new long[] {random.nextInt(13)});
        return pieces + 4;
    }

    private void item(StringBuilder text, String word) {
        text.append(random.nextInt(4) == 0 ? " " : "").append(word);
        boolean isWrong = random.nextInt(60) == 0;
        long[] a;
        if (word.equals("throw")) {
            a = new long[] {random.nextInt(7), random.nextInt(20), random.nextInt(7)};
        } else {
            do {
                a = numbers(word);
            } while (!isWrong && new Model().answer(word, a) < 0);
        }
        for (int i = 0; i < a.length; i++) {
            boolean isNear = i == 0 && random.nextInt(3) == 0;
            text.append(isNear ? "" : " ").append(random.nextInt(20) == 0 && a[i] < 100 ? "0" : "").append(a[i]);
        }
        text.append(random.nextInt(6) == 0 ? "  ; " : ";");
    }

    private void spoil(StringBuilder text) {
        if (text.length() == 0) {
            return;
        }
        int at = random.nextInt(text.length());
        String signs = "; 0909az AZ{`:/\t\u0000\u0080\u00ff";
        char sign = signs.charAt(random.nextInt(signs.length()));
        switch (random.nextInt(4)) {
            case 0: text.setLength(at); break;
            case 1: text.deleteCharAt(at); break;
            case 2: text.insert(at, sign); break;
            default: text.setCharAt(at, sign); break;
        }
    }

    // ---- numbers

    private long in(int least, int most) {
        int luck = random.nextInt(40);
        if (luck == 0) {
            return WILD[random.nextInt(WILD.length)];
        }
        if (luck == 1) {
            return random.nextBoolean() ? least - 1 : most + 1;
        }
        if (luck < 6) {
            return random.nextBoolean() ? least : most;
        }
        return least + random.nextInt(most - least + 1);
    }

    private long flag() {
        return random.nextInt(2);
    }

    private long[] of(long... a) {
        return a;
    }

    private long[] numbers(String call) {
        switch (call) {
            case "arm": return of(in(20, 90), in(1, 99), in(0, 9));
            case "hook": {
                long length = in(0, 99);
                return of(length, in(0, 99), in(0, (int) Math.max(0, Math.min(length, 99))));
            }
            case "dart": return of(random.nextBoolean() ? in(20, 60) : in(20, 300),
                    random.nextBoolean() ? in(1, 12) : in(1, 99), in(0, 60), in(0, 9));
            case "fling": return of(in(0, 6), in(0, 19), in(0, 3), in(0, 3), in(0, 3), in(0, 6), in(0, 5));
            case "strikes": return of(in(0, 3), in(0, 3), in(0, 3), in(0, 6),
                    random.nextBoolean() ? in(1, 400) : in(1, 20000));
            case "length": return of(in(0, 3), in(0, 3), in(0, 3), in(0, 6));
            case "straight": return of(in(0, 3), in(0, 3), in(0, 3), in(0, 1));
            case "contest": return of(in(0, 3), in(0, 3), in(0, 3), in(0, 6), in(20, 160), in(140, 300));
            case "story": {
                long what = in(0, 1);
                return of(in(0, 3), what, in(0, what == 1 ? 9 : 20));
            }
            case "tries": {
                long n = in(0, 30);
                return of(n, in(0, (int) Math.max(0, Math.min(n, 30))));
            }
            case "odds": return of(in(0, 3));
            case "person": return of(in(0, 1), random.nextBoolean() ? in(0, 9) : in(0, 999), flag());
            case "praise": return of(in(-99, 99));
            case "span": return of(in(0, 1), in(0, 2));
            case "thorn": return of(random.nextBoolean() ? in(1, 9) : in(1, 99), in(0, 3),
                    random.nextBoolean() ? in(8, 14) : in(1, 30), in(0, 1));
            case "kinds": return of(in(0, 1));
            case "land": return of(in(0, 3));
            case "butt": return of(random.nextInt(4) > 0 ? in(8, 14) : in(1, 30));
            case "play": return of(in(0, 9));
            case "which": return of(random.nextInt(3) == 0 ? -1 : in(0, 2), in(0, 5));
            case "hands": return of(in(0, 5), in(0, 10), in(0, 10));
            case "known": return of(in(0, 2), in(0, 5), in(0, 99));
            case "prior": return of(in(0, 2), in(0, 9));
            case "tip": return of(in(0, 5), in(0, 2));
            case "layer": return of(in(0, 7), in(0, 1), random.nextBoolean() ? in(0, 3) : in(0, 99));
            case "came": return of(in(0, 2));
            case "type": return of(random.nextLong(), in(1, 8));
            case "plan": return of(in(-1, 12));
            case "sign": return of(in(0, 2));
            case "limb": return of(in(0, 1), in(0, 5));
            case "image":
            case "from": return of(in(0, 1));
            case "status": return of(in(0, 2));
            case "count": return of(in(0, 6));
            default: return of();
        }
    }
}
