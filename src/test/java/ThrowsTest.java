/** Promises 1 to 9: a new object; arms, hooks, darts and what is thrown with them. */
public final class ThrowsTest {
    private ThrowsTest() {
    }

    public static void main(String[] args) {
        newObject();
        arms();
        hooks();
        darts();
        slowThrow();
        kindsOfThrows();
        angles();
        drags();
        flingRefused();
        strikes();
        strikesRefused();
        lengths();
        straight();
        contest();
        cleanAgain();
        Check.end();
    }

    private static void newObject() {
        ThrowHook x = new ThrowHook();
        for (int i = 0; i <= 6; i++) {
            Check.due(1, "count(" + i + ")", x.count(i), 0);
        }
        Check.fraction(1, "new", x, 0, 1);
        Check.status("new", x, 0, 0, 0);
        for (int i = 0; i < 4; i++) {
            Check.due(1, "CHANCE", x.story(i, 0, 10), 10);
            Check.due(1, "PRIOR", x.story(i, 1, 1), 1);
        }
        for (int i = 0; i < 3; i++) {
            Check.due(1, "PRIOR of a SORT", x.prior(i, 1), 1);
            for (int band = 0; band < 6; band++) {
                Check.due(1, "known", x.known(i, band, 0), 0);
            }
        }
        for (int i = 0; i < 8; i++) {
            Check.due(1, "arrows", x.layer(i, 0, 0), 0);
            Check.due(1, "darts", x.layer(i, 1, 0), 0);
        }
        Check.due(1, "praise", x.praise(0), 0);
        Check.due(1, "play", x.play(1), 1);
        Check.due(1, "from(0)", x.from(0), -3);
        Check.due(1, "from(1)", x.from(1), -3);
        Check.due(1, "clear()", x.clear(), 0);
    }

    private static void arms() {
        ThrowHook x = new ThrowHook();
        int[][] wrong = {{19, 50, 5}, {91, 50, 5}, {50, 0, 5}, {50, 100, 5}, {50, 50, -1}, {50, 50, 10},
            {Integer.MIN_VALUE, 50, 5}, {50, Integer.MAX_VALUE, 5}, {50, 50, Integer.MIN_VALUE}};
        for (int[] v : wrong) {
            Check.due(2, "arm, wrong", x.arm(v[0], v[1], v[2]), -2);
        }
        Check.due(2, "arm, least", x.arm(20, 1, 0), 0);
        Check.due(2, "arm, greatest", x.arm(90, 99, 9), 1);
        Check.due(2, "arm", x.arm(50, 50, 5), 2);
        Check.due(2, "arm", x.arm(50, 50, 5), 3);
        Check.due(2, "arm, a fifth", x.arm(50, 50, 5), -4);
        Check.due(2, "arm, a fifth, wrong", x.arm(19, 50, 5), -2);
        Check.due(2, "count(0)", x.count(0), 4);
        Check.status("arm", x, wrong.length + 1, 0, 1);
    }

    private static void hooks() {
        ThrowHook x = new ThrowHook();
        int[][] wrong = {{-1, 5, 0}, {100, 5, 0}, {50, -1, 0}, {50, 100, 0}, {50, 5, -1}, {50, 5, 51}, {0, 0, 1},
            {99, 99, 100}, {Integer.MAX_VALUE, 0, 0}, {0, Integer.MIN_VALUE, 0}, {-5, 0, -7}};
        for (int[] v : wrong) {
            Check.due(3, "hook, wrong", x.hook(v[0], v[1], v[2]), -2);
        }
        Check.due(3, "hook, least", x.hook(0, 0, 0), 0);
        Check.due(3, "hook, greatest", x.hook(99, 99, 99), 1);
        Check.due(3, "hook", x.hook(50, 5, 50), 2);
        Check.due(3, "hook", x.hook(50, 5, 0), 3);
        Check.due(3, "hook, a fifth", x.hook(50, 5, 0), -4);
        Check.due(3, "hook, a fifth, wrong", x.hook(50, 5, 51), -2);
        Check.due(3, "count(1)", x.count(1), 4);
        Check.status("hook", x, wrong.length + 1, 0, 1);
    }

    private static void darts() {
        ThrowHook x = new ThrowHook();
        int[][] wrong = {{19, 5, 5, 5}, {301, 5, 5, 5}, {50, 0, 5, 5}, {50, 100, 5, 5}, {50, 5, -1, 5},
            {50, 5, 61, 5}, {50, 5, 5, -1}, {50, 5, 5, 10}, {Integer.MIN_VALUE, 5, 5, 5}};
        for (int[] v : wrong) {
            Check.due(4, "dart, wrong", x.dart(v[0], v[1], v[2], v[3]), -2);
        }
        Check.due(4, "dart, least", x.dart(20, 1, 0, 0), 0);
        Check.due(4, "dart, greatest", x.dart(300, 99, 60, 9), 1);
        Check.due(4, "dart", x.dart(50, 5, 5, 5), 2);
        Check.due(4, "dart", x.dart(50, 5, 5, 5), 3);
        Check.due(4, "dart, a fifth", x.dart(50, 5, 5, 5), -4);
        Check.due(4, "dart, a fifth, wrong", x.dart(50, 5, 5, 10), -2);
        Check.due(4, "count(2)", x.count(2), 4);
        Check.status("dart", x, wrong.length + 1, 0, 1);
    }

    /** RANGE, PACE, BEND, OFF, RISE, ROUNDS. */
    private static void flung(String call, ThrowHook x, int[] a, int... want) {
        for (int what = 0; what < 6; what++) {
            Check.due(5, call + ", " + what, x.fling(a[0], a[1], a[2], a[3], a[4], a[5], what), want[what]);
        }
    }

    /**
     * By hand: LOAD 60, so HAND and END 1 more in each of 10 ROUNDS; BEND 0, 0, 1, 2 .. 8; PACE 10 and 8 by 50; OFF 2;
     * DRAG 10, VX 10 and no less; y 140, 120, 90, 50, 0.
     */
    private static void slowThrow() {
        ThrowHook x = new ThrowHook();
        x.arm(20, 1, 0);
        x.hook(0, 0, 0);
        x.dart(60, 1, 0, 0);
        flung("a slow throw", x, new int[] {0, 0, 0, 0, 0, 0}, 50, 10, 8, 2, 150, 5);
        flung("of which x is free", x, new int[] {0, 19, 0, 0, 0, 0}, 50, 10, 8, 2, 150, 5);
        // EARLY by 5: BEND 3, PACE 5, OFF 7; by more than all: 1 ROUND.
        flung("EARLY", x, new int[] {1, 5, 0, 0, 0, 0}, 25, 5, 3, 7, 150, 5);
        flung("EARLY by 9", x, new int[] {1, 9, 0, 0, 0, 0}, 5, 1, 0, 10, 150, 5);
        flung("EARLY by 19", x, new int[] {1, 19, 0, 0, 0, 0}, 5, 1, 0, 10, 150, 5);
        flung("EARLY by 8", x, new int[] {1, 8, 0, 0, 0, 0}, 10, 2, 0, 10, 150, 5);
        flung("OVERARM by 8", x, new int[] {5, 8, 0, 0, 0, 0}, 10, 2, 0, 10, 150, 5);
        flung("OVERARM by 19", x, new int[] {5, 19, 0, 0, 0, 0}, 5, 1, 0, 10, 150, 5);
        // SOFT: half of 1 is 1 at least. HARD: END times 10 by 20.
        flung("SOFT", x, new int[] {2, 0, 0, 0, 0, 0}, 50, 10, 8, 2, 150, 5);
        flung("HARD", x, new int[] {3, 0, 0, 0, 0, 0}, 50, 10, 3, 7, 150, 5);
    }

    private static ThrowHook thrower() {
        ThrowHook x = new ThrowHook();
        x.arm(60, 70, 6);
        x.hook(40, 30, 25);
        x.dart(80, 31, 12, 4);
        x.dart(80, 60, 12, 0);
        x.dart(80, 1, 12, 4);
        return x;
    }

    private static void kindsOfThrows() {
        ThrowHook x = thrower();
        flung("CLEAN", x, new int[] {0, 7, 0, 0, 0, 3}, 22725, 773, 44, 14, 7408, 77);
        flung("EARLY", x, new int[] {1, 7, 0, 0, 0, 3}, 12922, 433, 22, 0, 2376, 43);
        flung("SOFT", x, new int[] {2, 7, 0, 0, 0, 3}, 8546, 774, 95, 65, 7446, 77);
        flung("HARD", x, new int[] {3, 7, 0, 0, 0, 3}, 34687, 773, 22, 0, 7408, 77);
        flung("HIGH", x, new int[] {4, 7, 0, 0, 0, 3}, 21889, 773, 44, 14, 12106, 99);
        flung("OVERARM", x, new int[] {5, 7, 0, 0, 0, 3}, 12250, 418, 21, 0, 2230, 42);
        flung("WEIGHTED", x, new int[] {6, 7, 0, 0, 0, 3}, 22299, 746, 43, 13, 6921, 75);
        flung("HARD beyond 99", x, new int[] {3, 0, 0, 0, 1, 3}, 45738, 773, 14, 0, 7408, 77);
        flung("SOFT at 1", x, new int[] {2, 0, 0, 0, 2, 3}, 0, 774, 1435, 1405, 7446, 77);
        // HARD of 50 is 99.
        x.arm(67, 41, 7);
        x.hook(23, 16, 4);
        x.dart(148, 50, 41, 9);
        flung("HARD at 99", x, new int[] {3, 0, 1, 1, 3, 5}, 5008, 270, 10, 0, 2190, 42);
        // WEIGHTED may come beyond what a HOOK may have.
        x.hook(1, 99, 1);
        flung("WEIGHTED by 0", x, new int[] {6, 0, 0, 2, 0, 0}, 2365, 488, 28, 0, 150, 5);
        flung("WEIGHTED beyond 99", x, new int[] {6, 19, 0, 2, 0, 0}, 2200, 455, 27, 0, 150, 5);
    }

    private static void angles() {
        ThrowHook x = thrower();
        int[][] want = {
            {3578, 773, 44, 14, 150, 5}, {14580, 773, 44, 14, 943, 27}, {20746, 773, 44, 14, 3452, 52},
            {22725, 773, 44, 14, 7408, 77}, {21889, 773, 44, 14, 12106, 99}, {19394, 773, 44, 14, 17555, 119},
            {16039, 773, 44, 14, 22394, 134}};
        for (int angle = 0; angle < 7; angle++) {
            flung("ANGLE " + angle, x, new int[] {0, 0, 0, 0, 0, angle}, want[angle]);
        }
        // HIGH: one more of all but the highest.
        for (int angle = 0; angle < 7; angle++) {
            flung("HIGH, ANGLE " + angle, x, new int[] {4, 3, 0, 0, 0, angle}, want[Math.min(6, angle + 1)]);
        }
    }

    /** With a TAIL of 0 OFF counts three times. */
    private static void drags() {
        ThrowHook x = new ThrowHook();
        x.arm(50, 40, 3);
        x.hook(20, 10, 10);
        x.dart(70, 10, 5, 0);
        x.dart(70, 10, 5, 1);
        x.dart(70, 10, 5, 9);
        x.dart(70, 30, 5, 0);
        flung("TAIL 0, OFF", x, new int[] {0, 0, 0, 0, 0, 2}, 4634, 447, 55, 25, 1215, 31);
        flung("TAIL 1, OFF", x, new int[] {0, 0, 0, 0, 1, 2}, 8362, 447, 55, 25, 1215, 31);
        flung("TAIL 9, OFF", x, new int[] {0, 0, 0, 0, 2, 2}, 6770, 447, 55, 25, 1215, 31);
        flung("TAIL 0, straight", x, new int[] {0, 0, 0, 0, 3, 2}, 12493, 446, 17, 0, 1215, 31);
    }

    private static void flingRefused() {
        ThrowHook x = thrower();
        int[] good = {0, 0, 0, 0, 0, 0, 0};
        int[] least = {0, 0, 0, 0, 0, 0, 0};
        int[] most = {6, 19, 0, 0, 2, 6, 5};
        int refused = 0;
        for (int i = 0; i < 7; i++) {
            for (int v : new int[] {least[i] - 1, most[i] + 1, Integer.MIN_VALUE, Integer.MAX_VALUE}) {
                int[] a = good.clone();
                a[i] = v;
                Check.due(5, "fling, wrong", x.fling(a[0], a[1], a[2], a[3], a[4], a[5], a[6]), -100000);
                refused++;
            }
        }
        Check.due(5, "fling without arms", new ThrowHook().fling(0, 0, 0, 0, 0, 0, 0), -100000);
        Check.status("fling", x, refused, 0, 0);
    }

    private static void strikes() {
        // The slow throw is at 10, 20, 30, 40, 50 at the heights 140, 120, 90, 50, 0.
        ThrowHook x = new ThrowHook();
        x.arm(20, 1, 0);
        x.hook(0, 0, 0);
        x.dart(60, 1, 0, 0);
        int[] there = {1, 10, 11, 20, 30, 31, 40};
        for (int d : there) {
            Check.due(6, "strikes at " + d, x.strikes(0, 0, 0, 0, d), 1);
        }
        for (int d : new int[] {41, 50, 51, 1000, 20000}) {
            Check.due(6, "strikes at " + d, x.strikes(0, 0, 0, 0, d), 0);
        }
        // What it struck ahead does not count for what it never comes to.
        Check.due(6, "strikes at 40", x.strikes(0, 0, 0, 0, 40), 1);
        Check.due(6, "strikes at 20000", x.strikes(0, 0, 0, 0, 20000), 0);
        // By ANGLE it is at 180 first, too high then, and low enough once more.
        x.arm(52, 59, 6);
        x.hook(18, 1, 1);
        x.dart(272, 43, 53, 3);
        int[] high = {1, 231, 1136, 2007};
        int[] beside = {232, 1135, 2008, 2220};
        for (int i = 0; i < 4; i++) {
            Check.due(6, "strikes, high, at " + high[i], x.strikes(1, 1, 1, 1, high[i]), 1);
            Check.due(6, "strikes, high, at " + beside[i], x.strikes(1, 1, 1, 1, beside[i]), 0);
        }
        // Another one is at 181 first.
        x.arm(89, 48, 8);
        x.dart(215, 34, 10, 3);
        int[] higher = {1, 1404, 1405, 2300, 2301, 2519};
        int[] want = {0, 0, 1, 1, 0, 0};
        for (int i = 0; i < 6; i++) {
            Check.due(6, "strikes, higher, at " + higher[i], x.strikes(2, 1, 2, 1, higher[i]), want[i]);
        }
        // OFF 73: at 698 that is 50, at 699 more.
        x.arm(52, 95, 5);
        x.hook(88, 20, 67);
        x.dart(34, 60, 49, 3);
        Check.due(6, "strikes, off, at 1", x.strikes(3, 2, 3, 0, 1), 1);
        Check.due(6, "strikes, off, at 698", x.strikes(3, 2, 3, 0, 698), 1);
        Check.due(6, "strikes, off, at 699", x.strikes(3, 2, 3, 0, 699), 0);
        Check.status("strikes", x, 0, 0, 0);
        lastOfAll();
    }

    /** Behind its 149th ROUND it is at 19465 and at a height of 1. */
    private static void lastOfAll() {
        ThrowHook x = new ThrowHook();
        x.arm(53, 61, 0);
        x.hook(54, 0, 0);
        x.dart(31, 94, 2, 9);
        flung("a long one", x, new int[] {0, 0, 0, 0, 0, 6}, 19506, 862, 8, 2, 27826, 150);
        int[] far = {19424, 19425, 19465, 19466, 19506};
        int[] want = {0, 1, 1, 0, 0};
        for (int i = 0; i < 5; i++) {
            Check.due(6, "strikes at " + far[i], x.strikes(0, 0, 0, 6, far[i]), want[i]);
        }
    }

    /** What is CLEAN stays so behind a throw of another KIND. */
    private static void cleanAgain() {
        ThrowHook x = thrower();
        int[] far = {10, 2000, 2899, 2900, 3578};
        for (int kind = 0; kind < 7; kind++) {
            for (int d : far) {
                x.fling(kind, 17, 0, 0, 0, 5, 0);
                Check.due(6, "strikes behind KIND " + kind, x.strikes(0, 0, 0, 0, d), d <= 2899 ? 1 : 0);
            }
            x.fling(kind, 17, 0, 0, 0, 5, 0);
            Check.due(7, "length behind KIND " + kind, x.length(0, 0, 0, 3), 40);
            x.fling(kind, 17, 0, 0, 0, 5, 0);
            Check.due(8, "straight behind KIND " + kind, x.straight(0, 0, 0, 0), 45);
            x.fling(kind, 17, 0, 0, 0, 5, 0);
            Check.due(9, "contest behind KIND " + kind, x.contest(0, 0, 0, 3, 70, 80), 75);
        }
    }

    private static void strikesRefused() {
        ThrowHook x = thrower();
        int refused = 0;
        int[] good = {0, 0, 0, 0, 100};
        int[] least = {0, 0, 0, 0, 1};
        int[] most = {0, 0, 2, 6, 20000};
        for (int i = 0; i < 5; i++) {
            for (int v : new int[] {least[i] - 1, most[i] + 1, Integer.MIN_VALUE, Integer.MAX_VALUE}) {
                int[] a = good.clone();
                a[i] = v;
                Check.due(6, "strikes, wrong", x.strikes(a[0], a[1], a[2], a[3], a[4]), -2);
                refused++;
            }
        }
        Check.status("strikes", x, refused, 0, 0);
    }

    private static void lengths() {
        ThrowHook x = thrower();
        x.hook(0, 0, 0);
        x.hook(99, 99, 99);
        x.hook(99, 99, 10);
        Check.due(7, "length", x.length(0, 0, 0, 3), 40);
        Check.due(7, "length, no weight", x.length(0, 1, 0, 3), 1);
        Check.due(7, "length, a heavy end", x.length(0, 2, 0, 3), 0);
        Check.due(7, "length, heavy ahead of its end", x.length(0, 3, 0, 3), 52);
        ThrowHook y = new ThrowHook();
        y.arm(75, 57, 1);
        y.hook(30, 0, 6);
        y.dart(185, 22, 47, 3);
        Check.due(7, "length, the greatest", y.length(0, 0, 0, 5), 99);
        // Too weak to move it by any of them: the least of like ones.
        x.arm(90, 1, 0);
        Check.due(7, "length, like ones", x.length(1, 0, 0, 3), 0);
        for (int i = 0; i < 4; i++) {
            for (int v : new int[] {-1, i == 3 ? 7 : 4, Integer.MAX_VALUE}) {
                int[] a = {0, 0, 0, 3};
                a[i] = v;
                Check.due(7, "length, wrong", x.length(a[0], a[1], a[2], a[3]), -2);
            }
        }
        Check.status("length", x, 12, 0, 0);
    }

    private static void straight() {
        ThrowHook x = thrower();
        Check.due(8, "straight, least", x.straight(0, 0, 0, 0), 45);
        Check.due(8, "straight, greatest", x.straight(0, 0, 0, 1), 99);
        // What STIFF was told does not count.
        Check.due(8, "straight, another STIFF", x.straight(0, 0, 2, 0), 45);
        x.arm(50, 40, 3);
        x.hook(20, 10, 10);
        Check.due(8, "straight, least", x.straight(1, 1, 0, 0), 22);
        Check.due(8, "straight, greatest", x.straight(1, 1, 0, 1), 66);
        x.arm(90, 1, 0);
        x.dart(300, 1, 0, 0);
        Check.due(8, "straight, none", x.straight(2, 0, 3, 0), -1);
        Check.due(8, "straight, none", x.straight(2, 0, 3, 1), -1);
        Check.status("straight, none is no refusal", x, 0, 0, 0);
        for (int i = 0; i < 4; i++) {
            for (int v : new int[] {-1, i == 3 ? 2 : 4, Integer.MIN_VALUE}) {
                int[] a = {0, 0, 0, 0};
                a[i] = v;
                Check.due(8, "straight, wrong", x.straight(a[0], a[1], a[2], a[3]), -2);
            }
        }
        Check.status("straight", x, 12, 0, 0);
    }

    private static void contest() {
        ThrowHook x = thrower();
        Check.due(9, "contest of all", x.contest(0, 0, 0, 3, 20, 300), 75);
        Check.due(9, "contest of some", x.contest(0, 0, 0, 3, 100, 200), 100);
        Check.due(9, "contest of a stiff one", x.contest(0, 0, 1, 3, 20, 99), 41);
        Check.due(9, "contest of one", x.contest(0, 0, 0, 3, 77, 77), 77);
        Check.due(9, "contest of the heaviest", x.contest(0, 0, 0, 3, 300, 300), 300);
        ThrowHook light = new ThrowHook();
        light.arm(56, 85, 4);
        light.hook(35, 5, 22);
        light.dart(29, 29, 47, 1);
        Check.due(9, "contest, the heaviest is best", light.contest(0, 0, 0, 1, 36, 40), 40);
        int[][] wrong = {{-1, 0, 0, 3, 20, 300}, {1, 0, 0, 3, 20, 300}, {0, 1, 0, 3, 20, 300}, {0, 0, 3, 3, 20, 300},
            {0, 0, 0, 7, 20, 300}, {0, 0, 0, -1, 20, 300}, {0, 0, 0, 3, 19, 300}, {0, 0, 0, 3, 20, 301},
            {0, 0, 0, 3, 51, 50}, {0, 0, 0, 3, Integer.MIN_VALUE, Integer.MAX_VALUE}, {0, 0, 0, 3, 301, 301},
            {0, 0, 0, 3, 10, 19}};
        for (int[] a : wrong) {
            Check.due(9, "contest, wrong", x.contest(a[0], a[1], a[2], a[3], a[4], a[5]), -2);
        }
        Check.status("contest", x, wrong.length, 0, 0);
    }
}
