import java.util.List;
import java.util.function.Supplier;

/** Each number of each call: the least and the greatest, one below and one above them, and numbers far off. */
public final class LimitsTest {
    private static final List<Supplier<Run>> ANY = List.of(Run::anew, Run::barren, Run::ready, Run::full);
    private static final List<Supplier<Run>> THROWING = List.of(Run::ready, Run::full);
    private static final List<Supplier<Run>> READY = List.of(Run::ready);
    private static final List<Supplier<Run>> FULL = List.of(Run::full);
    private static final List<Supplier<Run>> EMPTY = List.of(Run::anew, Run::barren);
    private static final int[] FAR = {256, 65536, 1 << 30};

    private LimitsTest() {
    }

    public static void main(String[] args) {
        arms();
        hooks();
        darts();
        flings();
        throwsOfThese();
        contests();
        stories();
        people();
        thorns();
        whichOnes();
        hands();
        tips();
        plans();
        whatThereIs();
        Check.end();
    }

    /** The "?" of the call from least to most, on each of these objects; else it is refused as BAD. */
    private static void limits(List<Supplier<Run>> objects, String call, int least, int most, long refused) {
        for (Supplier<Run> object : objects) {
            for (int v : new int[] {least, most}) {
                Run run = object.get();
                long before = run.call("status(0)");
                String told = call.replace("?", "" + v);
                run.call(told);
                Check.due(Check.promise(), told + " is not BAD: status(0)", run.call("status(0)"), before);
                run.call("digest()");
            }
            none(List.of(object), call, least, most, refused);
        }
    }

    private static void limits(String call, int least, int most) {
        limits(ANY, call, least, most, -2);
    }

    /** Beside these numbers all are refused. */
    private static void none(List<Supplier<Run>> objects, String call, int least, int most, long refused) {
        for (Supplier<Run> object : objects) {
            Run run = object.get();
            bad(run, call, least - 1L, refused);
            bad(run, call, most + 1L, refused);
            bad(run, call, Integer.MIN_VALUE, refused);
            bad(run, call, Integer.MAX_VALUE, refused);
            for (int far : FAR) {
                bad(run, call, (long) least + far > most ? least + far : most + far, refused);
                bad(run, call, (long) most - far < least ? most - far : least - far, refused);
            }
        }
    }

    private static void bad(Run run, String call, long v, long refused) {
        run.refused(call.replace("?", "" + v), refused, Run.AS_BAD);
    }

    /** A number of one of those that there are: two in the ready object, so many in the full one, none in a new one. */
    private static void there(String call, int inReady, int inFull, long refused) {
        limits(READY, call, 0, inReady - 1, refused);
        limits(FULL, call, 0, inFull - 1, refused);
        for (Supplier<Run> object : EMPTY) {
            Run run = object.get();
            for (int v : new int[] {-1, 0, 1, Integer.MIN_VALUE, Integer.MAX_VALUE}) {
                bad(run, call, v, refused);
            }
        }
    }

    private static void arms() {
        Check.sentence(2, "REACH (20 .. 90)");
        limits("arm(?, 5, 5)", 20, 90);
        Check.sentence(2, "STRENGTH (1 .. 99)");
        limits("arm(50, ?, 5)", 1, 99);
        Check.sentence(2, "LAG (0 .. 9)");
        limits("arm(50, 5, ?)", 0, 9);
    }

    private static void hooks() {
        Check.sentence(3, "LENGTH (0 .. 99)");
        limits("hook(?, 5, 0)", 0, 99);
        Check.sentence(3, "WEIGHT (0 .. 99)");
        limits("hook(50, ?, 5)", 0, 99);
        Check.sentence(3, "PLACE (0 .. LENGTH)");
        limits("hook(99, 5, ?)", 0, 99);
        limits("hook(50, 5, ?)", 0, 50);
        limits("hook(1, 5, ?)", 0, 1);
        limits("hook(0, 5, ?)", 0, 0);
        // By PLACE the LENGTH has a least one.
        limits("hook(?, 5, 99)", 99, 99);
        limits("hook(?, 5, 30)", 30, 99);
    }

    private static void darts() {
        Check.sentence(4, "MASS (20 .. 300)");
        limits("dart(?, 5, 5, 5)", 20, 300);
        Check.sentence(4, "STIFF (1 .. 99)");
        limits("dart(50, ?, 5, 5)", 1, 99);
        Check.sentence(4, "TIP (0 .. 60)");
        limits("dart(50, 5, ?, 5)", 0, 60);
        Check.sentence(4, "TAIL (0 .. 9)");
        limits("dart(50, 5, 5, ?)", 0, 9);
    }

    private static void flings() {
        Check.sentence(5, "0 RANGE, 1 PACE, 2 BEND, 3 OFF, 4 RISE, 5 ROUNDS of FLYING. BAD: -100000.");
        limits(THROWING, "fling(0, 0, 0, 0, 0, 0, ?)", 0, 5, -100000);
        Check.sentence(5, "A THROW has a KIND");
        limits(THROWING, "fling(?, 0, 0, 0, 0, 0, 0)", 0, 6, -100000);
        Check.sentence(5, "x (0 .. 19)");
        for (int kind = 0; kind <= 6; kind++) {
            limits(THROWING, "fling(" + kind + ", ?, 0, 0, 0, 0, 0)", 0, 19, -100000);
        }
        Check.sentence(5, "ANGLE (0 .. 6)");
        limits(THROWING, "fling(0, 0, 0, 0, 0, ?, 0)", 0, 6, -100000);
        // HIGH, too, is told by an ANGLE of 6 at most.
        limits(THROWING, "fling(4, 0, 0, 0, 0, ?, 0)", 0, 6, -100000);
        Check.sentence(5, "no ARMS, HOOKS, DARTS");
        there("fling(0, 0, ?, 0, 0, 0, 0)", 2, 4, -100000);
        there("fling(0, 0, 0, ?, 0, 0, 0)", 2, 4, -100000);
        there("fling(0, 0, 0, 0, ?, 0, 0)", 2, 4, -100000);
    }

    private static void throwsOfThese() {
        Check.sentence(6, "Whether a CLEAN one STRIKES at a distance: 1, 0. BAD.");
        there("strikes(?, 0, 0, 0, 100)", 2, 4, -2);
        there("strikes(0, ?, 0, 0, 100)", 2, 4, -2);
        there("strikes(0, 0, ?, 0, 100)", 2, 4, -2);
        limits(THROWING, "strikes(0, 0, 0, ?, 100)", 0, 6, -2);
        Check.sentence(6, "a distance d (1 .. 20000)");
        limits(THROWING, "strikes(0, 0, 0, 2, ?)", 1, 20000, -2);
        Check.sentence(7, "LENGTHS. BAD.");
        there("length(?, 0, 0, 3)", 2, 4, -2);
        there("length(0, ?, 0, 3)", 2, 4, -2);
        there("length(0, 0, ?, 3)", 2, 4, -2);
        limits(THROWING, "length(0, 0, 0, ?)", 0, 6, -2);
        Check.sentence(8, "STRAIGHT: the least (0), the greatest (1). NONE: none. BAD.");
        there("straight(?, 0, 0, 0)", 2, 4, -2);
        there("straight(0, ?, 0, 0)", 2, 4, -2);
        there("straight(0, 0, ?, 0)", 2, 4, -2);
        limits(THROWING, "straight(0, 0, 0, ?)", 0, 1, -2);
    }

    private static void contests() {
        Check.sentence(9, "CONTEST. BAD.");
        there("contest(?, 0, 0, 3, 20, 300)", 2, 4, -2);
        there("contest(0, ?, 0, 3, 20, 300)", 2, 4, -2);
        there("contest(0, 0, ?, 3, 20, 300)", 2, 4, -2);
        limits(THROWING, "contest(0, 0, 0, ?, 20, 300)", 0, 6, -2);
        Check.sentence(9, "of MASS a .. b (20 <= a <= b <= 300; CLEAN)");
        limits(THROWING, "contest(0, 0, 0, 3, ?, 300)", 20, 300, -2);
        limits(THROWING, "contest(0, 0, 0, 3, ?, 50)", 20, 50, -2);
        limits(THROWING, "contest(0, 0, 0, 3, ?, 20)", 20, 20, -2);
        limits(THROWING, "contest(0, 0, 0, 3, 20, ?)", 20, 300, -2);
        limits(THROWING, "contest(0, 0, 0, 3, 250, ?)", 250, 300, -2);
        limits(THROWING, "contest(0, 0, 0, 3, 300, ?)", 300, 300, -2);
    }

    private static void stories() {
        Check.sentence(10, "STORIES 0 .. 3");
        limits("story(?, 0, 5)", 0, 3);
        limits("story(?, 1, 5)", 0, 3);
        Check.sentence(10, "CHANCE (0), PRIOR (1) of a STORY: what it was. BAD.");
        limits("story(0, ?, 5)", 0, 1);
        Check.sentence(10, "CHANCE of 20 (0 .. 20; 10 at first)");
        limits("story(3, 0, ?)", 0, 20);
        Check.sentence(10, "PRIORS (0 .. 9; 1 at first)");
        limits("story(3, 1, ?)", 0, 9);
        Check.sentence(11, "n of them (0 .. 30), k better");
        limits("tries(?, 0)", 0, 30);
        Check.sentence(11, "BAD: k above n, too.");
        limits("tries(30, ?)", 0, 30);
        limits("tries(7, ?)", 0, 7);
        limits("tries(0, ?)", 0, 0);
        limits("tries(?, 7)", 7, 30);
        limits("tries(?, 30)", 30, 30);
        Check.sentence(12, "ODDS is THE FRACTION: 1. BAD; NO.");
        limits("odds(?)", 0, 3);
    }

    private static void people() {
        Check.sentence(14, "a GROUP (0, 1)");
        limits("person(?, 5, true)", 0, 1);
        Check.sentence(14, "how far (0 .. 999)");
        limits("person(1, ?, false)", 0, 999);
        Check.sentence(15, "PRAISE (-99 .. 99; 0 at first)");
        limits(ANY, "praise(?)", -99, 99, -100);
        Check.sentence(17, "the least (0), the greatest (1), the mean (2: 1, it is THE FRACTION). BAD: -1000; NO: -2000.");
        limits(ANY, "span(?, 2)", 0, 1, -1000);
        limits(ANY, "span(0, ?)", 0, 2, -1000);
    }

    private static void thorns() {
        Check.sentence(18, "LONG (1 .. 99)");
        limits("thorn(?, 1, 5, 1)", 1, 99);
        Check.sentence(18, "LAND (0 .. 3)");
        limits("thorn(50, ?, 5, 1)", 0, 3);
        Check.sentence(18, "HOLLOW (1 .. 30)");
        limits("thorn(50, 1, ?, 1)", 1, 30);
        Check.sentence(18, "WORN (0 left, 1 right)");
        limits("thorn(50, 1, 5, ?)", 0, 1);
        Check.sentence(19, "KINDS: c (0), whether TWO (1, 0; 1). NONE: there is no such cut. BAD.");
        limits("kinds(?)", 0, 1);
        Check.sentence(20, "LANDS is THE FRACTION: 1. BAD; NO.");
        limits("land(?)", 0, 3);
        Check.sentence(21, "of DARTS found, so thick (1 .. 30)");
        limits("butt(?)", 1, 30);
        Check.sentence(22, "PLAY (0 .. 9; 1 at first)");
        limits("play(?)", 0, 9);
    }

    private static void whichOnes() {
        Check.sentence(23, "of those the share with the BUTT at the THORN (0 .. 5, there) is THE FRACTION: 1. BAD; NO.");
        // -1, too, is a BUTT's number here: NONE.
        limits(READY, "which(?, 0)", -1, 1, -2);
        limits(FULL, "which(?, 0)", -1, 5, -2);
        limits(EMPTY, "which(?, 0)", -1, -1, -2);
        // Both objects have more than 6 THORNS.
        limits(THROWING, "which(0, ?)", 0, 5, -2);
        List<Supplier<Run>> three = List.of(() -> Run.anew().does(
                "butt(10)", "thorn(1, 0, 10, 0)", "thorn(1, 0, 10, 0)", "thorn(1, 0, 10, 0)"));
        limits(three, "which(0, ?)", 0, 2, -2);
        List<Supplier<Run>> noThorns = List.of(() -> Run.anew().does("butt(10)"));
        none(noThorns, "which(0, ?)", 0, -1, -2);
    }

    private static void hands() {
        Check.sentence(24, "HANDS is THE FRACTION: 1. BAD; NO.");
        there("hands(?, 5, 5)", 7, 12, -2);
        Check.sentence(24, "of 10 people r throw with the right hand (0 .. 10)");
        limits(THROWING, "hands(0, ?, 5)", 0, 10, -2);
        limits(THROWING, "hands(1, ?, 10)", 0, 10, -2);
        Check.sentence(24, "a right one wears the right side with w of 10 (0 .. 10)");
        limits(THROWING, "hands(0, 5, ?)", 0, 10, -2);
        limits(THROWING, "hands(1, 10, ?)", 0, 10, -2);
    }

    private static void tips() {
        Check.sentence(25, "SORTS 0 arrow, 1 dart, 2 spear");
        limits("known(?, 0, 5)", 0, 2);
        Check.sentence(25, "CLASSES 0 .. 5 of weight");
        limits("known(2, ?, 5)", 0, 5);
        Check.sentence(25, "(0 .. 99 each; 0 at first)");
        limits("known(1, 5, ?)", 0, 99);
        Check.sentence(26, "PRIOR of the SORT (0 .. 9; 1 at first)");
        limits("prior(?, 5)", 0, 2);
        limits("prior(2, ?)", 0, 9);
        Check.sentence(27, "The chance of a SORT for a CLASS is THE FRACTION: 1. BAD; NO.");
        limits("tip(?, 0)", 0, 5);
        limits("tip(0, ?)", 0, 2);
        Check.sentence(28, "LAYERS 0 .. 7, the oldest first");
        limits("layer(?, 0, 5)", 0, 7);
        limits("layer(?, 1, 5)", 0, 7);
        Check.sentence(28, "Arrows (0), darts (1) of a LAYER: what they were. BAD.");
        limits("layer(7, ?, 5)", 0, 1);
        Check.sentence(28, "so many arrows, darts in each (0 .. 99; 0 at first)");
        limits("layer(7, 0, ?)", 0, 99);
        limits("layer(0, 1, ?)", 0, 99);
        Check.sentence(29, "CAME: the first (0), the last (1) such LAYER, how many do not fit (2). BAD.");
        limits("came(?)", 0, 2);
    }

    private static void plans() {
        Check.sentence(30, "The lowest n (1 .. 8) bytes of v");
        limits("type(7021794754122752053, ?)", 1, 8);
        limits("type(-1, ?)", 1, 8);
        Check.sentence(33, "BAD: -10: i below -1, too; NO: -20: a FAULT.");
        for (Supplier<Run> object : ANY) {
            Run run = object.get();
            for (int v : new int[] {-2, -3, -5, -10, -20, Integer.MIN_VALUE}) {
                bad(run, "plan(?)", v, -10);
            }
        }
    }

    private static void whatThereIs() {
        Check.sentence(34, "its sign (0: -1, 0, 1), how many limbs above (1), below (2). BAD.");
        limits("sign(?)", 0, 2);
        Check.sentence(35, "Limb i above (0), below (1). NONE: not so many. BAD: i below 0, too.");
        limits("limb(?, 0)", 0, 1);
        for (Supplier<Run> object : ANY) {
            Run run = object.get();
            for (int v : new int[] {-1, -2, -3, Integer.MIN_VALUE}) {
                bad(run, "limb(0, ?)", v, -2);
                bad(run, "limb(1, ?)", v, -2);
            }
            run.counted("limb(0, " + Integer.MAX_VALUE + ")", -1).counted("limb(1, " + Integer.MAX_VALUE + ")", -1);
        }
        Check.sentence(36, "An IMAGE is kept: 1. BAD.");
        limits("image(?)", 0, 1);
        Check.sentence(37, "It goes on from an IMAGE: 1. BAD; NO: none was kept.");
        limits("from(?)", 0, 1);
        Check.sentence(38, "-1: another what (counts as BAD).");
        limits(ANY, "status(?)", 0, 2, -1);
        Check.sentence(39, "4 THORNS, 5 BUTTS, 6 bytes of THE PLAN. BAD.");
        limits("count(?)", 0, 6);
    }
}
