/** Every call on a new object, and on one that has as many of each as there may be. */
public final class EmptyAndFullTest {
    private EmptyAndFullTest() {
    }

    public static void main(String[] args) {
        emptyThrows();
        emptyRest();
        fullThrows();
        fullStories();
        fullFinds();
        fullPlan();
        Check.end();
    }

    private static void emptyThrows() {
        Check.sentence(1, "As told; no ARMS, HOOKS, DARTS.");
        for (int i = 0; i < 4; i++) {
            Run run = Run.anew();
            for (int what = 0; what < 6; what++) {
                run.refused("fling(0, 0, " + i + ", " + i + ", " + i + ", 0, " + what + ")", -100000, Run.AS_BAD);
            }
            run.refused("strikes(" + i + ", 0, 0, 0, 1)", -2, Run.AS_BAD).refused("length(0, " + i + ", 0, 0)", -2, Run.AS_BAD);
            run.refused("straight(0, 0, " + i + ", 0)", -2, Run.AS_BAD).refused("contest(0, 0, 0, 0, 20, 300)", -2, Run.AS_BAD);
        }
        for (int i = 0; i < 7; i++) {
            Run.anew().is("count(" + i + ")", 0);
        }
        Run.anew().is("arm(20, 1, 0)", 0).is("hook(0, 0, 0)", 0).is("dart(20, 1, 0, 0)", 0).is("person(0, 0, false)", 0)
                .is("thorn(1, 0, 1, 0)", 0).is("butt(1)", 0).is("type(0, 1)", 1);
    }

    private static void emptyRest() {
        Check.sentence(1, "As told");
        Run run = Run.anew().refused("pairs()", -3, Run.AS_NO).refused("which(-1, 0)", -3, Run.AS_NO);
        run.refused("which(0, 0)", -2, Run.AS_BAD).refused("hands(0, 5, 5)", -2, Run.AS_BAD);
        for (int i = 0; i < 4; i++) {
            run.share("odds(" + i + ")", 1, 4).refused("land(" + i + ")", -3, Run.AS_NO);
        }
        for (int what = 0; what < 3; what++) {
            run.refused("span(0, " + what + ")", -2000, Run.AS_NO).refused("span(1, " + what + ")", -2000, Run.AS_NO);
        }
        run.is("parts()", 0).counted("kinds(0)", -1).counted("kinds(1)", -1).share("tip(0, 0)", 1, 3).share("tip(5, 2)", 1, 3);
        run.is("came(0)", 0).is("came(1)", 8).is("came(2)", 0).counted("fault()", -1).is("plan(-1)", 0).counted("plan(0)", -5);
        run.is("clear()", 0).refused("from(0)", -3, Run.AS_NO).refused("from(1)", -3, Run.AS_NO);
        run.is("status(0)", 2).is("status(1)", 14).is("status(2)", 0);
        run.is("image(0)", 1).is("image(1)", 1).is("from(0)", 1).is("from(1)", 1);
    }

    private static void fullThrows() {
        Check.sentence(2, "FULL: 4.");
        Run run = Run.anew();
        for (int i = 0; i < 4; i++) {
            run.does("arm(20, " + (i + 1) + ", " + 3 * i + ")", "hook(" + i + ", 0, 0)", "dart(" + (60 - i) + ", 99, 0, 0)");
        }
        run.refused("arm(20, 1, 0)", -4, Run.AS_FULL).refused("hook(0, 0, 0)", -4, Run.AS_FULL);
        run.refused("dart(20, 1, 0, 0)", -4, Run.AS_FULL);
        // LOAD 60 each time, so many ROUNDS of as much as STRENGTH, END 20 and LENGTH by 20 of it.
        for (int i = 0; i < 4; i++) {
            long end = (long) (i + 1) * (10 + 3 * i) * (20 + i) / 20;
            run.is("fling(0, 0, " + i + ", " + i + ", " + i + ", 0, 1)", end);
            run.is("fling(0, 0, " + i + ", " + i + ", " + i + ", 0, 5)", 5);
        }
        run.refused("fling(0, 0, 4, 3, 3, 0, 1)", -100000, Run.AS_BAD).refused("fling(0, 0, 3, 4, 3, 0, 1)", -100000, Run.AS_BAD);
        run.refused("fling(0, 0, 3, 3, 4, 0, 1)", -100000, Run.AS_BAD).refused("strikes(4, 3, 3, 0, 1)", -2, Run.AS_BAD);
        run.is("strikes(3, 3, 3, 0, 1)", 1).refused("length(3, 4, 3, 0)", -2, Run.AS_BAD);
        run.refused("straight(3, 3, 4, 0)", -2, Run.AS_BAD).refused("contest(4, 3, 3, 0, 20, 300)", -2, Run.AS_BAD);
    }

    private static void fullStories() {
        Check.sentence(14, "FULL: 16.");
        // GROUP 0: 0, 18 .. 126; GROUP 1: 9, 27 .. 135; none praised.
        Run run = Run.full().refused("person(0, 0, true)", -4, Run.AS_FULL).share("pairs()", 9, 16);
        run.is("span(0, 0)", 0).is("span(0, 1)", 126).share("span(0, 2)", 63, 1);
        run.is("span(1, 0)", 9).is("span(1, 1)", 135).share("span(1, 2)", 72, 1);
        // First there are 0, 6, 12 of GROUP 0 and 3, 9, 15 of GROUP 1.
        run.does("praise(99)").is("span(0, 1)", 54 + 54 + 99).share("span(0, 2)", 8 * 63 + 3 * 99, 8).is("span(1, 1)", 234);
        for (int i = 0; i < 4; i++) {
            run.does("story(" + i + ", 0, 20)", "story(" + i + ", 1, 9)");
        }
        run.does("tries(30, 30)").share("odds(3)", 1, 4).is("parts()", 0);
    }

    private static void fullFinds() {
        Check.sentence(18, "FULL: 12.");
        // LONG 5, 13 .. 93: SPREAD of five and seven and of six and six 144, of all 288.
        Run run = Run.full().refused("thorn(1, 0, 1, 0)", -4, Run.AS_FULL).refused("butt(1)", -4, Run.AS_FULL);
        run.is("kinds(0)", 37).is("kinds(1)", 0);
        for (int land = 0; land < 4; land++) {
            run.share("land(" + land + ")", 5 + 8 * (land + 4), 1);
        }
        run.is("which(-1, 0)", 720).share("which(5, 5)", 1, 6).share("which(0, 0)", 1, 6);
        run.refused("which(6, 0)", -2, Run.AS_BAD).refused("which(0, 6)", -2, Run.AS_BAD).share("hands(11, 9, 9)", 81, 82);
        run.refused("hands(12, 5, 5)", -2, Run.AS_BAD);
        for (int sort = 0; sort < 3; sort++) {
            for (int band = 0; band < 6; band++) {
                run.does("known(" + sort + ", " + band + ", 99)");
            }
            run.does("prior(" + sort + ", " + (9 - sort) + ")");
        }
        run.share("tip(0, 0)", 3, 8).share("tip(5, 2)", 7, 24);
        for (int layer = 0; layer < 8; layer++) {
            run.does("layer(" + layer + ", 0, 99)", "layer(" + layer + ", 1, 99)");
        }
        run.is("came(0)", 0).is("came(1)", 8).is("came(2)", 792);
    }

    private static void fullPlan() {
        Check.sentence(30, "THE PLAN is a TEXT (200 bytes at most)");
        Run run = Run.full().is("count(6)", 200).refused("type(59, 1)", -4, Run.AS_FULL).is("fault()", -1).is("plan(-1)", 12);
        run.is("plan(0)", 5).is("plan(11)", 5).counted("plan(12)", -5);
        Check.sentence(36, "An IMAGE is kept: 1.");
        run.is("image(0)", 1).is("image(1)", 1).is("clear()", 200).is("count(6)", 0).is("from(1)", 1).is("count(6)", 200);
        int[] most = {4, 4, 4, 16, 12, 6, 200};
        for (int i = 0; i < 7; i++) {
            run.is("count(" + i + ")", most[i]);
        }
        run.is("status(0)", 0).is("status(1)", 0).is("status(2)", 1);
    }
}
