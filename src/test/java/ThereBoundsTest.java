import java.math.BigInteger;
import java.util.ArrayList;
import java.util.List;

/** Promises 34 to 40: each sentence about what there is that names a boundary case, and what STATUS counts of each call. */
public final class ThereBoundsTest {
    private static final BigInteger BASE = BigInteger.ONE.shiftLeft(64);

    private ThereBoundsTest() {
    }

    public static void main(String[] args) {
        fractionAtFirst();
        signs();
        limbs();
        whatLeavesTheFraction();
        noImage();
        imagesKeep();
        imagesOfEmptyAndFull();
        imagesLeave();
        imagesApart();
        refusedAsBad();
        refusedAsNo();
        refusedAsFull();
        badFirst();
        noRefusal();
        statusOfAnother();
        counts();
        digestAtFirst();
        digestOfEach();
        digestWraps();
        lastCalls();
        Check.end();
    }

    private static void fractionAtFirst() {
        Check.sentence(34, "THE FRACTION is 0 by 1 at first");
        Run run = Run.anew().fraction(0, 1).is("sign(0)", 0).is("sign(1)", 0).is("sign(2)", 1);
        run.counted("limb(0, 0)", -1).is("limb(1, 0)", 1).counted("limb(1, 1)", -1);
    }

    /** One person of GROUP 0 there first, as far as that, and others not. */
    private static Run mean(int praise, int... far) {
        Run run = Run.anew();
        for (int i = 0; i < far.length; i++) {
            run.does("person(0, " + far[i] + ", " + (i == 0) + ")");
        }
        run.call("praise(" + praise + ")");
        return run;
    }

    private static void signs() {
        Check.sentence(34, "THE FRACTION: its sign (0: -1, 0, 1), how many limbs above (1), below (2)");
        mean(-1, 0).share("span(0, 2)", -1, 1);
        mean(0, 0).share("span(0, 2)", 0, 1);
        mean(1, 0).share("span(0, 2)", 1, 1);
        mean(-99, 0, 0).share("span(0, 2)", -99, 2);
        // 0 has no limb above, and 1 below, whatever was there ahead.
        mean(-3, 0, 1, 2).share("span(0, 2)", 0, 1);
        Run run = mean(-3, 0, 1).share("span(0, 2)", -1, 1).does("person(0, 2, false)").share("span(0, 2)", 0, 1);
        run.does("person(0, 3, false)").share("span(0, 2)", 3, 4);
        Check.sentence(34, "lowest terms, below above 0");
        mean(-98, 0, 0, 0, 0).share("span(0, 2)", -49, 2);
        mean(99, 999, 999, 999).share("span(0, 2)", 1032, 1);
        mean(0, 6, 6, 6, 6).share("span(0, 2)", 6, 1);
    }

    private static void limbs() {
        Check.sentence(35, "Limb i above (0), below (1). NONE: not so many. BAD: i below 0, too.");
        // 4 times 16 to the 7 by that and 1: two limbs each.
        Run run = Run.anew().does("story(0, 0, 4)", "story(0, 1, 4)", "story(1, 0, 19)", "story(2, 1, 0)", "story(3, 1, 0)",
                "tries(7, 0)", "odds(0)");
        for (int which = 0; which < 2; which++) {
            run.is("limb(" + which + ", 0)", which).is("limb(" + which + ", 1)", 1);
            run.counted("limb(" + which + ", 2)", -1).counted("limb(" + which + ", 3)", -1);
            run.counted("limb(" + which + ", 5)", -1).counted("limb(" + which + ", 6)", -1);
            run.counted("limb(" + which + ", " + Integer.MAX_VALUE + ")", -1);
            run.refused("limb(" + which + ", -1)", -2, Run.AS_BAD);
            run.refused("limb(" + which + ", " + Integer.MIN_VALUE + ")", -2, Run.AS_BAD);
        }
        run.refused("limb(2, 0)", -2, Run.AS_BAD).refused("limb(-1, 0)", -2, Run.AS_BAD).refused("limb(2, -1)", -2, Run.AS_BAD);
    }

    private static void whatLeavesTheFraction() {
        Check.sentence(34, "Refused, changing nothing but STATUS");
        Run run = Run.ready().share("hands(1, 9, 9)", 81, 82);
        run.refused("odds(4)", -2, Run.AS_BAD).refused("land(4)", -2, Run.AS_BAD).refused("which(9, 0)", -2, Run.AS_BAD);
        run.refused("tip(6, 0)", -2, Run.AS_BAD).refused("span(0, 3)", -1000, Run.AS_BAD).refused("land(3)", -3, Run.AS_NO);
        run.refused("hands(0, 10, 10)", -3, Run.AS_NO).fraction(81, 82);
        // What answers a number alone does not touch it.
        for (String call : new String[] {"parts()", "span(0, 0)", "span(1, 1)", "kinds(0)", "kinds(1)", "came(2)", "which(-1, 0)",
            "plan(0)", "fling(0, 0, 0, 0, 0, 3, 0)", "length(0, 0, 0, 3)", "contest(0, 0, 0, 3, 60, 70)", "image(1)", "from(0)",
            "from(1)", "clear()"}) {
            run.call(call);
            run.fraction(81, 82);
        }
    }

    private static void noImage() {
        Check.sentence(37, "BAD; NO: none was kept.");
        Run run = Run.anew().refused("from(0)", -3, Run.AS_NO).refused("from(1)", -3, Run.AS_NO);
        run.is("image(1)", 1).refused("from(0)", -3, Run.AS_NO).is("from(1)", 1);
        run.is("image(0)", 1).is("from(0)", 1);
        Run other = Run.anew().is("image(0)", 1).refused("from(1)", -3, Run.AS_NO).is("from(0)", 1);
        // A wrong one keeps none.
        other.refused("image(2)", -2, Run.AS_BAD).refused("image(-1)", -2, Run.AS_BAD).refused("from(1)", -3, Run.AS_NO);
        other.refused("from(2)", -2, Run.AS_BAD).refused("from(-1)", -2, Run.AS_BAD);
    }

    private static void imagesKeep() {
        Check.sentence(36, "IMAGES 0, 1 keep all but them, THE FRACTION and STATUS");
        String[] changes = {"arm(50, 5, 5)", "hook(50, 5, 5)", "dart(50, 5, 5, 5)", "story(3, 0, 20)", "story(3, 1, 9)",
            "tries(30, 30)", "person(1, 999, true)", "praise(99)", "thorn(99, 3, 30, 1)", "butt(30)", "play(9)", "prior(2, 9)",
            "known(2, 5, 99)", "layer(7, 0, 99)", "layer(7, 1, 99)", "type(59, 1)"};
        for (String change : changes) {
            Run run = Run.anew().does("image(0)");
            long before = run.call("digest()");
            run.does(change, "image(1)");
            long behind = run.call("digest()");
            Check.isTrue(change + " changes what there is", before != behind);
            run.does("from(0)").is("digest()", before).does("from(1)").is("digest()", behind);
            // An IMAGE is as it was kept, though what goes on from it changes.
            run.does("from(0)", change).is("digest()", behind).does("from(0)").is("digest()", before);
        }
    }

    private static void imagesOfEmptyAndFull() {
        Check.sentence(37, "it goes on from one");
        Run run = Run.anew().does("image(0)");
        long empty = run.call("digest()");
        for (int i = 0; i < 4; i++) {
            run.is("arm(20, 1, 0)", i).is("hook(0, 0, 0)", i).is("dart(20, 1, 0, 0)", i);
        }
        for (int i = 0; i < 16; i++) {
            run.is("person(0, 5, false)", i);
        }
        for (int i = 0; i < 12; i++) {
            run.is("thorn(1, 0, 1, 0)", i);
        }
        for (int i = 0; i < 6; i++) {
            run.is("butt(1)", i);
        }
        run.types("a".repeat(200)).does("image(1)");
        long full = run.call("digest()");
        int[] most = {4, 4, 4, 16, 12, 6, 200};
        for (int i = 0; i < 7; i++) {
            run.does("from(0)").is("count(" + i + ")", 0).does("from(1)").is("count(" + i + ")", most[i]);
        }
        run.is("digest()", full).refused("arm(20, 1, 0)", -4, Run.AS_FULL).refused("person(0, 5, false)", -4, Run.AS_FULL);
        run.refused("type(97, 1)", -4, Run.AS_FULL).refused("thorn(1, 0, 1, 0)", -4, Run.AS_FULL);
        run.does("from(0)").is("digest()", empty).refused("fling(0, 0, 0, 0, 0, 0, 0)", -100000, Run.AS_BAD);
        run.refused("land(0)", -3, Run.AS_NO).refused("span(0, 0)", -2000, Run.AS_NO).refused("which(-1, 0)", -3, Run.AS_NO);
        run.is("fault()", -1).is("clear()", 0).is("arm(90, 99, 9)", 0).is("person(1, 9, true)", 0).is("type(59, 1)", 1);
        run.does("from(1)").is("digest()", full).is("fault()", 0);
    }

    private static void imagesLeave() {
        Check.sentence(37, "keep all but them, THE FRACTION and STATUS; it goes on from one");
        Run run = Run.anew().does("image(0)").refused("arm(0, 0, 0)", -2, Run.AS_BAD).refused("pairs()", -3, Run.AS_NO);
        run.types("a".repeat(200)).refused("type(97, 1)", -4, Run.AS_FULL).share("odds(0)", 1, 4).does("image(1)");
        run.is("from(0)", 1).fraction(1, 4).is("status(0)", 1).is("status(1)", 1).is("status(2)", 1).is("count(6)", 0);
        run.is("from(1)", 1).fraction(1, 4).is("status(0)", 1).is("status(1)", 1).is("status(2)", 1).is("count(6)", 200);
        // Each IMAGE is there still.
        run.is("from(0)", 1).is("count(6)", 0).is("from(1)", 1).is("count(6)", 200).is("from(1)", 1).is("count(6)", 200);
    }

    private static void imagesApart() {
        Check.sentence(36, "An IMAGE is kept: 1. BAD.");
        // Kept again it is what there is then; the other one stays.
        Run run = Run.anew().does("butt(1)", "image(0)", "butt(2)", "image(1)", "butt(3)", "image(0)");
        run.does("from(1)").is("count(5)", 2).does("from(0)").is("count(5)", 3).does("image(1)", "butt(4)");
        run.does("from(1)").is("count(5)", 3).is("butt(5)", 3).does("from(0)").is("count(5)", 3).is("butt(6)", 3);
        run.refused("image(2)", -2, Run.AS_BAD).does("from(0)").is("count(5)", 3).does("from(1)").is("count(5)", 3);
        // From an IMAGE an IMAGE is kept as from what was told.
        run.does("from(0)", "image(1)", "butt(7)", "image(0)", "from(1)").is("count(5)", 3).does("from(0)").is("count(5)", 4);
    }

    /** Calls that are refused on an object, each with its answer. */
    private static void allRefused(Run run, int status, Object... callsAndAnswers) {
        for (int i = 0; i < callsAndAnswers.length; i += 2) {
            run.refused((String) callsAndAnswers[i], (Integer) callsAndAnswers[i + 1], status);
        }
        run.is("status(" + status + ")", callsAndAnswers.length / 2);
    }

    private static void refusedAsBad() {
        Check.sentence(38, "BAD -2 a number is not as told");
        allRefused(Run.ready(), Run.AS_BAD, "arm(91, 1, 0)", -2, "hook(0, 0, 1)", -2, "dart(20, 1, 0, 10)", -2,
                "fling(7, 0, 0, 0, 0, 0, 0)", -100000, "strikes(0, 0, 0, 0, 0)", -2, "length(0, 0, 0, 7)", -2,
                "straight(0, 0, 0, 2)", -2, "contest(0, 0, 0, 0, 30, 29)", -2, "story(4, 0, 0)", -2, "tries(1, 2)", -2,
                "odds(4)", -2, "person(2, 0, true)", -2, "praise(100)", -100, "span(2, 0)", -1000, "thorn(0, 0, 1, 0)", -2,
                "kinds(2)", -2, "land(4)", -2, "butt(31)", -2, "play(10)", -2, "which(-2, 0)", -2, "hands(7, 5, 5)", -2,
                "known(0, 0, 100)", -2, "prior(0, 10)", -2, "tip(6, 0)", -2, "layer(8, 0, 0)", -2, "came(3)", -2, "type(0, 9)", -2,
                "plan(-2)", -10, "sign(3)", -2, "limb(0, -1)", -2, "image(2)", -2, "from(2)", -2, "status(3)", -1,
                "count(7)", -2);
    }

    private static void refusedAsNo() {
        Check.sentence(38, "NO -3 as told");
        allRefused(Run.barren().does("thorn(1, 0, 1, 1)"), Run.AS_NO, "odds(0)", -3, "parts()", -3, "pairs()", -3,
                "span(0, 0)", -2000, "span(1, 2)", -2000, "land(1)", -3, "which(-1, 0)", -3, "hands(0, 10, 0)", -3, "tip(0, 0)", -3,
                "plan(-1)", -20, "plan(0)", -20, "from(0)", -3, "from(1)", -3);
    }

    private static void refusedAsFull() {
        Check.sentence(38, "FULL -4 (where others are told they count as these)");
        allRefused(Run.full(), Run.AS_FULL, "arm(50, 5, 5)", -4, "hook(50, 5, 5)", -4, "dart(50, 5, 5, 5)", -4,
                "person(0, 5, true)", -4, "thorn(5, 0, 5, 0)", -4, "butt(5)", -4, "type(59, 1)", -4, "type(0, 8)", -4);
    }

    private static void badFirst() {
        Check.sentence(38, "Refused, changing nothing but STATUS, the first of");
        allRefused(Run.barren(), Run.AS_BAD, "odds(4)", -2, "span(2, 0)", -1000, "span(0, 3)", -1000, "land(4)", -2, "which(0, 0)", -2,
                "hands(0, 10, 0)", -2, "tip(6, 0)", -2, "tip(0, 3)", -2, "plan(-2)", -10, "from(2)", -2);
        allRefused(Run.full(), Run.AS_BAD, "arm(50, 5, 10)", -2, "hook(50, 5, 51)", -2, "dart(50, 5, 5, 10)", -2,
                "person(0, 1000, true)", -2, "thorn(5, 0, 5, 2)", -2, "butt(0)", -2, "type(59, 0)", -2);
    }

    private static void noRefusal() {
        Check.sentence(38, "how many calls were refused as BAD, NO, FULL (each answer told so below is such a one)");
        // These numbers below 0 are told as no refusal.
        Run run = Run.anew().counted("kinds(0)", -1).counted("kinds(1)", -1).counted("fault()", -1).counted("plan(0)", -5);
        run.counted("limb(0, 0)", -1).counted("limb(1, 1)", -1).does("arm(90, 1, 0)", "hook(0, 0, 0)", "dart(300, 1, 0, 0)");
        run.counted("straight(0, 0, 0, 0)", -1).counted("straight(0, 0, 0, 1)", -1);
        run.does("person(0, 1, true)").counted("praise(-3)", 0).counted("span(0, 0)", -2).counted("praise(-4)", -3);
        run.counted("span(0, 0)", -3).counted("praise(-5)", -4).counted("span(0, 1)", -4).counted("praise(0)", -5);
        run.counted("strikes(0, 0, 0, 0, 1)", 0).counted("status(0)", 0).is("status(1)", 0).is("status(2)", 0);
        run.types("x").counted("fault()", 0).counted("digest()", run.call("digest()"));
    }

    private static void statusOfAnother() {
        Check.sentence(38, "STATUS: BAD (0), NO (1), FULL (2). -1: another what (counts as BAD).");
        Run run = Run.anew().is("status(0)", 0).is("status(1)", 0).is("status(2)", 0);
        int refused = 0;
        for (int what : new int[] {-1, 3, -2, 4, Integer.MIN_VALUE, Integer.MAX_VALUE}) {
            run.is("status(" + what + ")", -1);
            refused++;
            run.is("status(0)", refused).is("status(1)", 0).is("status(2)", 0);
        }
    }

    private static void counts() {
        Check.sentence(39, "How many: 0 ARMS, 1 HOOKS, 2 DARTS, 3 PEOPLE, 4 THORNS, 5 BUTTS, 6 bytes of THE PLAN.");
        String[] calls = {"arm(20, 1, 0)", "hook(0, 0, 0)", "dart(20, 1, 0, 0)", "person(0, 0, true)", "thorn(1, 0, 1, 0)", "butt(1)",
            "type(0, 1)"};
        int[] most = {4, 4, 4, 16, 12, 6, 200};
        for (int i = 0; i < 7; i++) {
            Run run = Run.anew().is("count(" + i + ")", 0);
            for (int n = 1; n <= most[i]; n++) {
                run.does(calls[i]);
            }
            run.is("count(" + i + ")", most[i]).refused(calls[i], -4, Run.AS_FULL).is("count(" + i + ")", most[i]);
            for (int other = 0; other < 7; other++) {
                run.is("count(" + other + ")", other == i ? most[i] : 0);
            }
        }
    }

    private static void digestAtFirst() {
        Check.sentence(40, "h = 613; then h = 31 h + v for each v: count(0) to count(6)");
        long[] none = {0, 0, 0, 0, 0, 0, 0};
        Run.anew().is("digest()", Check.digestOf(none, Check.UNTOLD, Check.NO_FRACTION));
    }

    /** What digest goes over for a new object, but for what is put at a place, with as many more at the head as are told. */
    private static long digestWith(int count, int at, long... v) {
        List<Long> all = new ArrayList<>();
        for (int i = 0; i < 7; i++) {
            all.add(i == count ? (i == 6 ? v.length : 1L) : 0L);
        }
        for (int i = 0; i <= Check.UNTOLD.length; i++) {
            if (i == at) {
                for (long one : v) {
                    all.add(one);
                }
            }
            // A row that is counted comes ahead of what stands there; another number stands in place of it.
            boolean isReplaced = count < 0 && i >= at && i < at + v.length;
            if (i < Check.UNTOLD.length && !isReplaced) {
                all.add(Check.UNTOLD[i]);
            }
        }
        for (long one : Check.NO_FRACTION) {
            all.add(one);
        }
        long[] values = all.stream().mapToLong(one -> one).toArray();
        Check.due(40, "31 times h wraps", Check.digestOf(values), byBigNumbers(values));
        return Check.digestOf(values);
    }

    private static long byBigNumbers(long[] values) {
        BigInteger h = BigInteger.valueOf(613);
        for (long v : values) {
            h = h.multiply(BigInteger.valueOf(31)).add(BigInteger.valueOf(v));
        }
        return h.mod(BASE).longValue();
    }

    private static void digestOfEach() {
        Check.sentence(40, "of ARMS, HOOKS, DARTS what was told");
        Run.anew().does("arm(90, 99, 9)").is("digest()", digestWith(0, 0, 90, 99, 9));
        Run.anew().does("hook(99, 98, 97)").is("digest()", digestWith(1, 0, 99, 98, 97));
        Run.anew().does("dart(300, 99, 60, 9)").is("digest()", digestWith(2, 0, 300, 99, 60, 9));
        Check.sentence(40, "of STORIES CHANCE, PRIOR; n, k of TRIES");
        Run.anew().does("story(0, 0, 20)").is("digest()", digestWith(-1, 0, 20));
        Run.anew().does("story(3, 1, 9)").is("digest()", digestWith(-1, 7, 9));
        Run.anew().does("story(3, 0, 0)").is("digest()", digestWith(-1, 6, 0));
        Run.anew().does("tries(30, 29)").is("digest()", digestWith(-1, 8, 30, 29));
        Check.sentence(40, "of PEOPLE GROUP, how far, first (1, 0); PRAISE");
        Run.anew().does("person(1, 999, true)").is("digest()", digestWith(3, 10, 1, 999, 1));
        Run.anew().does("person(0, 0, false)").is("digest()", digestWith(3, 10, 0, 0, 0));
        Run.anew().does("praise(99)").is("digest()", digestWith(-1, 10, 99));
        Run.anew().does("praise(-99)").is("digest()", digestWith(-1, 10, -99));
        Check.sentence(40, "of THORNS the four; BUTTS; PLAY");
        Run.anew().does("thorn(99, 3, 30, 1)").is("digest()", digestWith(4, 11, 99, 3, 30, 1));
        Run.anew().does("butt(30)").is("digest()", digestWith(5, 11, 30));
        Run.anew().does("play(9)").is("digest()", digestWith(-1, 11, 9));
        Run.anew().does("play(0)").is("digest()", digestWith(-1, 11, 0));
        Check.sentence(40, "of SORTS PRIOR, known by CLASSES; of LAYERS arrows, darts; bytes of THE PLAN");
        Run.anew().does("prior(0, 9)").is("digest()", digestWith(-1, 12, 9));
        Run.anew().does("prior(2, 0)").is("digest()", digestWith(-1, 26, 0));
        Run.anew().does("known(0, 0, 99)").is("digest()", digestWith(-1, 13, 99));
        Run.anew().does("known(2, 5, 99)").is("digest()", digestWith(-1, 32, 99));
        Run.anew().does("layer(0, 0, 99)").is("digest()", digestWith(-1, 33, 99));
        Run.anew().does("layer(7, 1, 99)").is("digest()", digestWith(-1, 48, 99));
        Run.anew().does("type(65280, 2)").is("digest()", digestWith(6, 49, 255, 0));
    }

    private static void digestWraps() {
        Check.sentence(40, "THE FRACTION: sign(0) to sign(2), all limbs above, below.");
        long[] none = {0, 0, 0, 0, 0, 0, 0};
        Run.anew().share("odds(3)", 1, 4).is("digest()", Check.digestOf(none, Check.UNTOLD, new long[] {1, 1, 1, 1, 4}));
        // Below 0 it has its sign once; with two limbs each the lowest is first.
        long[] told = Check.UNTOLD.clone();
        told[0] = 4;
        told[1] = 4;
        told[2] = 19;
        told[5] = 0;
        told[7] = 0;
        told[8] = 7;
        long want = Check.digestOf(none, told, new long[] {1, 2, 2, 0, 1, 1, 1});
        Run.anew().does("story(0, 0, 4)", "story(0, 1, 4)", "story(1, 0, 19)", "story(2, 1, 0)", "story(3, 1, 0)", "tries(7, 0)",
                "odds(0)").is("digest()", want);
    }

    private static void lastCalls() {
        Check.sentence(40, "An object is used for at most 512 calls");
        Run run = Run.anew();
        for (int i = 0; i < 511; i++) {
            run.is("butt(0)", -2);
        }
        run.is("status(0)", 511);
        Run full = Run.full();
        long before = full.call("digest()");
        int calls = 4 * 3 + 16 + 12 + 6 + 25 + 2 + 1;
        for (int i = calls; i < 511; i++) {
            full.is("which(-1, 0)", 720);
        }
        full.is("digest()", before);
    }
}
