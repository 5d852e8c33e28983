/** Promises 18 to 29: each sentence about what was found that names a boundary case. */
public final class FindBoundsTest {
    private FindBoundsTest() {
    }

    public static void main(String[] args) {
        twelveThorns();
        sixButts();
        noCut();
        cuts();
        likeCuts();
        twoKinds();
        lands();
        plays();
        unlikeThorns();
        firstSix();
        noRow();
        whichNumbers();
        hands();
        knownOnes();
        tips();
        noTips();
        layers();
        came();
        neverCame();
        Check.end();
    }

    private static void twelveThorns() {
        Check.sentence(18, "THORNS 0 .. 11, as they come");
        Run run = Run.anew();
        for (int i = 0; i < 12; i++) {
            run.is("count(4)", i).is("thorn(" + (9 * i == 99 ? 99 : 1 + 9 * i) + ", " + i % 4 + ", 30, " + i / 6 + ")", i);
        }
        Check.sentence(18, "A THORN: its number. BAD; FULL: 12.");
        run.refused("thorn(50, 1, 5, 1)", -4, Run.AS_FULL).refused("thorn(1, 0, 1, 0)", -4, Run.AS_FULL);
        // A wrong one is BAD ahead of FULL.
        run.refused("thorn(0, 1, 5, 1)", -2, Run.AS_BAD).refused("thorn(50, 4, 5, 1)", -2, Run.AS_BAD);
        run.refused("thorn(50, 1, 31, 1)", -2, Run.AS_BAD).refused("thorn(50, 1, 5, 2)", -2, Run.AS_BAD).is("count(4)", 12);
        Check.sentence(18, "WORN (0 left, 1 right)");
        run.share("hands(5, 10, 3)", 1, 1).share("hands(11, 9, 1)", 1, 2).share("hands(5, 9, 1)", 81, 82);
    }

    private static void sixButts() {
        Check.sentence(21, "BUTTS 0 .. 5, as they come");
        Run run = Run.anew();
        for (int i = 0; i < 6; i++) {
            run.is("count(5)", i).is("butt(" + (i == 0 ? 30 : i) + ")", i);
        }
        Check.sentence(21, "A BUTT: its number. BAD; FULL: 6.");
        run.refused("butt(1)", -4, Run.AS_FULL).refused("butt(30)", -4, Run.AS_FULL);
        // A wrong one is BAD ahead of FULL.
        run.refused("butt(0)", -2, Run.AS_BAD).refused("butt(31)", -2, Run.AS_BAD).is("count(5)", 6);
    }

    private static Run thorns(int... lengths) {
        Run run = Run.anew();
        for (int length : lengths) {
            run.does("thorn(" + length + ", 0, 1, 0)");
        }
        return run;
    }

    private static void noCut() {
        Check.sentence(19, "NONE: there is no such cut.");
        int[][] likeOnes = {{}, {1}, {99}, {1, 1}, {50, 50, 50}, {99, 99, 99, 99, 99, 99, 99, 99, 99, 99, 99, 99}};
        for (int[] one : likeOnes) {
            thorns(one).counted("kinds(0)", -1).counted("kinds(1)", -1).refused("kinds(2)", -2, Run.AS_BAD);
        }
        Check.sentence(19, "LONG up to c, above c, some of both");
        thorns(50, 50).counted("kinds(0)", -1).does("thorn(51, 0, 1, 0)").is("kinds(0)", 50);
        thorns(50, 50).does("thorn(49, 0, 1, 0)").is("kinds(0)", 49);
        // The greatest LONG is never c: nothing would be above it.
        thorns(98, 99).is("kinds(0)", 98);
        thorns(99, 98).is("kinds(0)", 98);
        thorns(1, 99).is("kinds(0)", 1);
        thorns(1, 1, 1, 1, 1, 1, 1, 1, 1, 1, 1, 2).is("kinds(0)", 1);
        thorns(2, 1, 2, 2, 2, 2, 2, 2, 2, 2, 2, 2).is("kinds(0)", 1);
    }

    private static void cuts() {
        Check.sentence(19, "SPREAD of some: how far LONG of each is from the middle one's");
        // Two to the left of the cut, then three: 0 and 1, 1 by 10 and 11; 11 alone far from its own.
        thorns(10, 11, 20, 21, 22).is("kinds(0)", 11).is("kinds(1)", 1);
        thorns(10, 11, 12, 20, 21).is("kinds(0)", 12).is("kinds(1)", 1);
        // The middle one's, not the mean's: of 1, 2, 60 it is 2 (1 and 58); so 2 apart from 60, 61.
        thorns(1, 2, 60, 61).is("kinds(0)", 2).is("kinds(1)", 1);
        thorns(1, 2, 60).is("kinds(0)", 2).is("kinds(1)", 1);
        thorns(1, 59, 60).is("kinds(0)", 1).is("kinds(1)", 1);
        // As they come they need not be sorted.
        thorns(60, 1, 2).is("kinds(0)", 2);
        thorns(22, 10, 21, 11, 20).is("kinds(0)", 11);
        // Like ones at the cut stay together.
        thorns(5, 5, 5, 6, 6, 6).is("kinds(0)", 5).is("kinds(1)", 1);
        thorns(1, 5, 5, 5, 5, 9).is("kinds(0)", 1).is("kinds(1)", 0);
    }

    private static void likeCuts() {
        Check.sentence(19, "with the least SPREAD of both together, of like ones the least c");
        thorns(10, 11, 12).is("kinds(0)", 10);
        thorns(12, 11, 10).is("kinds(0)", 10);
        thorns(1, 2, 3, 4).is("kinds(0)", 1);
        // 10 | 11 12 13 makes 2, 10 11 | 12 13 makes 2, 10 11 12 | 13 makes 2.
        thorns(10, 11, 12, 13).is("kinds(0)", 10);
        // 5 in a row: 1 and 2 by both middle cuts, 4 by the first.
        thorns(1, 2, 3, 4, 5).is("kinds(0)", 2);
        // A least c that is not the first: 1 3 | 4 5 makes 3, 1 3 4 | 5 makes 3, 1 | 3 4 5 makes 2.
        thorns(1, 3, 4, 5).is("kinds(0)", 1);
        thorns(1, 2, 4, 6).is("kinds(0)", 2);
        thorns(10, 20, 30, 30, 20, 10).is("kinds(0)", 10);
    }

    private static void twoKinds() {
        Check.sentence(19, "TWO: if twice that is less than SPREAD of all");
        // SPREAD of all 2, of both 1: twice that is as much.
        thorns(10, 11, 12).is("kinds(1)", 0);
        // 3 and 1; one less of both makes it less.
        thorns(10, 11, 13).is("kinds(0)", 11).is("kinds(1)", 1);
        thorns(5, 15, 10).is("kinds(0)", 5).is("kinds(1)", 0);
        thorns(5, 16, 10).is("kinds(0)", 10).is("kinds(1)", 1);
        thorns(1, 2).is("kinds(1)", 1);
        thorns(1, 99).is("kinds(1)", 1);
        thorns(1, 2, 3, 4).is("kinds(1)", 0);
        // SPREAD of all 6, of both 3; of all 7, of both 3.
        thorns(1, 2, 3, 4, 5).is("kinds(0)", 2).is("kinds(1)", 0);
        thorns(1, 2, 3, 4, 6).is("kinds(0)", 2).is("kinds(1)", 0);
        thorns(1, 2, 4, 5).is("kinds(0)", 2).is("kinds(1)", 1);
        // As many and as far as can be: 6 times 98.
        thorns(1, 99, 1, 99, 1, 99, 1, 99, 1, 99, 1, 99).is("kinds(0)", 1).is("kinds(1)", 1);
        thorns(1, 9, 17, 25, 33, 41, 49, 57, 65, 73, 81, 89).is("kinds(0)", 33).is("kinds(1)", 0);
    }

    private static void lands() {
        Check.sentence(20, "LANDS: the mean LONG of a LAND (NO: none).");
        Run run = Run.anew();
        for (int land = 0; land < 4; land++) {
            run.refused("land(" + land + ")", -3, Run.AS_NO);
        }
        for (int land = 0; land < 4; land++) {
            run.does("thorn(" + (1 + 98 * (land % 2)) + ", " + land + ", 1, 0)").share("land(" + land + ")", 1 + 98 * (land % 2), 1);
            if (land < 3) {
                run.refused("land(" + (land + 1) + ")", -3, Run.AS_NO).fraction(1 + 98 * (land % 2), 1);
            }
        }
        Run all = Run.anew();
        for (int i = 0; i < 12; i++) {
            all.does("thorn(" + (i == 0 ? 98 : 99) + ", 3, 1, 0)");
        }
        all.share("land(3)", 12 * 99 - 1, 12).refused("land(2)", -3, Run.AS_NO).refused("land(4)", -2, Run.AS_BAD);
        thorns(1, 1, 1, 1).share("land(0)", 1, 1).refused("land(-1)", -2, Run.AS_BAD);
    }

    /** One BUTT with THORNS of these HOLLOWS. */
    private static Run butt(int thick, int... hollows) {
        Run run = Run.anew().does("butt(" + thick + ")");
        for (int hollow : hollows) {
            run.does("thorn(1, 0, " + hollow + ", 0)");
        }
        return run;
    }

    private static void plays() {
        Check.sentence(22, "PLAY (0 .. 9; 1 at first)");
        Run.anew().is("play(0)", 1).is("play(9)", 0).is("play(0)", 9);
        butt(10, 10).is("which(-1, 0)", 1);
        butt(10, 9).is("which(-1, 0)", 1);
        butt(10, 11).is("which(-1, 0)", 1);
        butt(10, 8).refused("which(-1, 0)", -3, Run.AS_NO);
        butt(10, 12).refused("which(-1, 0)", -3, Run.AS_NO);
        Check.sentence(23, "thickness no more than PLAY (0 .. 9; 1 at first) from HOLLOW: how many");
        for (int play = 0; play <= 9; play++) {
            Run run = butt(15, 15 - play, 15 + play).does("play(" + play + ")");
            run.is("which(-1, 0)", 2).share("which(0, 0)", 1, 2).share("which(0, 1)", 1, 2);
            butt(15, 14 - play, 16 + play).does("play(" + play + ")").refused("which(-1, 0)", -3, Run.AS_NO);
        }
        butt(1, 10, 11).does("play(9)").is("which(-1, 0)", 1).share("which(0, 0)", 1, 1).share("which(0, 1)", 0, 1);
        butt(30, 20, 21).does("play(9)").is("which(-1, 0)", 1).share("which(0, 1)", 1, 1);
        butt(1, 30).does("play(9)").refused("which(-1, 0)", -3, Run.AS_NO);
    }

    private static Run alike(int butts, int thorns) {
        Run run = Run.anew();
        for (int i = 0; i < butts; i++) {
            run.does("butt(10)");
        }
        for (int i = 0; i < thorns; i++) {
            run.does("thorn(1, 0, 10, 0)");
        }
        return run;
    }

    private static void unlikeThorns() {
        Check.sentence(23, "rows in which each BUTT goes with an unlike THORN");
        int[] rows = {6, 30, 120, 360, 720, 720};
        for (int butts = 1; butts <= 6; butts++) {
            Run run = alike(butts, 6).is("which(-1, 0)", rows[butts - 1]);
            run.share("which(" + (butts - 1) + ", 5)", 1, 6).share("which(0, 0)", 1, 6);
        }
        for (int butts = 1; butts <= 5; butts++) {
            // As many THORNS as BUTTS: each row an order of them.
            alike(butts, butts).is("which(-1, 0)", rows[butts - 1] / new int[] {6, 15, 20, 15, 6}[butts - 1]);
            alike(butts + 1, butts).refused("which(-1, 0)", -3, Run.AS_NO).refused("which(0, 0)", -3, Run.AS_NO);
        }
        // Two BUTTS that go with one THORN alone.
        Run two = Run.anew().does("butt(5)", "butt(5)", "thorn(1, 0, 5, 0)", "thorn(1, 0, 20, 0)");
        two.refused("which(-1, 0)", -3, Run.AS_NO);
    }

    private static void firstSix() {
        Check.sentence(23, "an unlike THORN of the first 6");
        alike(6, 7).is("which(-1, 0)", 720);
        alike(6, 12).is("which(-1, 0)", 720).refused("which(0, 6)", -2, Run.AS_BAD).refused("which(0, 11)", -2, Run.AS_BAD);
        butt(5, 20, 20, 20, 20, 20, 5).is("which(-1, 0)", 1).share("which(0, 5)", 1, 1).share("which(0, 0)", 0, 1);
        butt(5, 20, 20, 20, 20, 20, 20, 5).refused("which(-1, 0)", -3, Run.AS_NO).refused("which(0, 6)", -2, Run.AS_BAD);
    }

    private static void noRow() {
        Check.sentence(23, "(NO: none, no BUTTS)");
        Run.anew().refused("which(-1, 0)", -3, Run.AS_NO);
        thorns(1, 2, 3).refused("which(-1, 0)", -3, Run.AS_NO).refused("which(-1, 2)", -3, Run.AS_NO);
        alike(1, 0).refused("which(-1, 0)", -3, Run.AS_NO);
        alike(6, 0).refused("which(-1, 0)", -3, Run.AS_NO);
        butt(5, 20).refused("which(-1, 0)", -3, Run.AS_NO).refused("which(0, 0)", -3, Run.AS_NO);
        // One BUTT that goes with none is enough for that.
        Run run = alike(1, 6).is("which(-1, 0)", 6).does("butt(30)").refused("which(-1, 0)", -3, Run.AS_NO);
        run.refused("which(0, 0)", -3, Run.AS_NO).refused("which(1, 5)", -3, Run.AS_NO).fraction(0, 1);
    }

    private static void whichNumbers() {
        Check.sentence(23, "WHICH: how many rows (butt = NONE, thorn is not asked)");
        for (int thorn : new int[] {-1, -2, 0, 5, 6, 11, 12, Integer.MIN_VALUE, Integer.MAX_VALUE}) {
            alike(2, 3).counted("which(-1, " + thorn + ")", 6).fraction(0, 1);
        }
        Check.sentence(23, "the share with the BUTT at the THORN (0 .. 5, there)");
        for (int n = 1; n <= 7; n++) {
            Run run = alike(1, n);
            run.share("which(0, " + (Math.min(n, 6) - 1) + ")", 1, Math.min(n, 6));
            run.refused("which(0, " + Math.min(n, 6) + ")", -2, Run.AS_BAD).refused("which(0, -1)", -2, Run.AS_BAD);
            run.refused("which(1, 0)", -2, Run.AS_BAD).refused("which(-2, 0)", -2, Run.AS_BAD).fraction(1, Math.min(n, 6));
        }
        // BAD ahead of NO.
        Run.anew().refused("which(0, 0)", -2, Run.AS_BAD).refused("which(-2, 0)", -2, Run.AS_BAD);
        butt(5, 20).refused("which(0, 1)", -2, Run.AS_BAD).refused("which(1, 0)", -2, Run.AS_BAD);
        alike(1, 0).refused("which(0, 0)", -2, Run.AS_BAD);
    }

    private static void hands() {
        Check.sentence(24, "the chance that the THORN was a right one's (NO: that can not be)");
        Run run = Run.anew().does("thorn(1, 0, 1, 0)", "thorn(1, 0, 1, 1)");
        int left = 0;
        int right = 1;
        // None is right-handed, or all are; they wear their side never, or always.
        for (int w = 0; w <= 10; w++) {
            handsAre(run, right, 10, w, 10 * w, 0);
            handsAre(run, left, 10, w, 10 * (10 - w), 0);
            handsAre(run, right, 0, w, 0, 10 * (10 - w));
            handsAre(run, left, 0, w, 0, 10 * w);
        }
        for (int r = 0; r <= 10; r++) {
            handsAre(run, right, r, 0, 0, 10 * (10 - r));
            handsAre(run, left, r, 0, 10 * r, 0);
            handsAre(run, right, r, 10, 10 * r, 0);
            handsAre(run, left, r, 10, 0, 10 * (10 - r));
        }
        handsLeaveTheFraction();
    }

    private static void handsAre(Run run, int thorn, int r, int w, int byRight, int byLeft) {
        String call = "hands(" + thorn + ", " + r + ", " + w + ")";
        if (byRight + byLeft == 0) {
            Run.anew().does("thorn(1, 0, 1, 0)", "thorn(1, 0, 1, 1)").refused(call, -3, Run.AS_NO);
        } else {
            run.is(call, 1).is("sign(0)", byRight > 0 ? 1 : 0).is("limb(1, 0)", 1);
        }
    }

    private static void handsLeaveTheFraction() {
        Check.sentence(24, "HANDS is THE FRACTION: 1. BAD; NO.");
        Run run = Run.anew().refused("hands(0, 5, 5)", -2, Run.AS_BAD).does("thorn(1, 0, 1, 1)");
        run.share("hands(0, 9, 9)", 81, 82).refused("hands(0, 0, 10)", -3, Run.AS_NO);
        run.refused("hands(0, 10, 0)", -3, Run.AS_NO).refused("hands(1, 5, 5)", -2, Run.AS_BAD).fraction(81, 82);
        // BAD ahead of NO.
        run.refused("hands(1, 0, 10)", -2, Run.AS_BAD).refused("hands(-1, 10, 0)", -2, Run.AS_BAD);
        run.refused("hands(0, 11, 0)", -2, Run.AS_BAD).refused("hands(0, 10, -1)", -2, Run.AS_BAD);
        run.share("hands(0, 1, 1)", 1, 82).share("hands(0, 1, 9)", 1, 2).share("hands(0, 5, 10)", 1, 1);
    }

    private static void knownOnes() {
        Check.sentence(25, "known ones by CLASSES 0 .. 5 of weight (0 .. 99 each; 0 at first)");
        for (int sort = 0; sort < 3; sort++) {
            for (int band = 0; band < 6; band++) {
                String call = "known(" + sort + ", " + band + ", ";
                Run run = Run.anew().is(call + "99)", 0).is(call + "0)", 99).is(call + "99)", 0);
                run.refused(call + "100)", -2, Run.AS_BAD).refused(call + "-1)", -2, Run.AS_BAD).is(call + "1)", 99);
            }
        }
        Check.sentence(26, "PRIOR of the SORT (0 .. 9; 1 at first)");
        for (int sort = 0; sort < 3; sort++) {
            String call = "prior(" + sort + ", ";
            Run run = Run.anew().is(call + "9)", 1).is(call + "0)", 9).is(call + "9)", 0);
            run.refused(call + "10)", -2, Run.AS_BAD).refused(call + "-1)", -2, Run.AS_BAD).is(call + "1)", 9);
        }
    }

    private static void tips() {
        Check.sentence(27, "(known there and 1) times PRIOR of the SORT (0 .. 9; 1 at first), by (all known of the SORT and 6)");
        Run run = Run.anew();
        for (int band = 0; band < 6; band++) {
            for (int sort = 0; sort < 3; sort++) {
                run.share("tip(" + band + ", " + sort + ")", 1, 3);
            }
        }
        // 99 in one CLASS: 100 by 105 there, 1 by 105 elsewhere, against 1 by 6 twice.
        Run one = Run.anew().does("known(0, 5, 99)").share("tip(5, 0)", 20, 27).share("tip(5, 1)", 7, 54);
        one.share("tip(0, 0)", 1, 36).share("tip(0, 2)", 35, 72).share("tip(4, 0)", 1, 36);
        // 99 in all: 100 by 600, that is like 1 by 6 again.
        for (int band = 0; band < 6; band++) {
            one.does("known(0, " + band + ", 99)");
        }
        one.share("tip(0, 0)", 1, 3).share("tip(5, 1)", 1, 3).does("prior(0, 9)").share("tip(0, 0)", 9, 11);
        // All as many as there may be, of the greatest PRIORS.
        for (int sort = 0; sort < 3; sort++) {
            one.does("prior(" + sort + ", 9)");
            for (int band = 0; band < 6; band++) {
                one.does("known(" + sort + ", " + band + ", 99)");
            }
        }
        one.share("tip(3, 2)", 1, 3);
        // 99 by 599 against 1 by 6 twice.
        one.does("known(2, 3, 98)").share("tip(3, 2)", 297, 297 + 599);
    }

    private static void noTips() {
        Check.sentence(27, "by that of all (NO: all are 0). LAYERS");
        for (int sort = 0; sort < 3; sort++) {
            Run run = Run.barren();
            for (int band = 0; band < 6; band += 5) {
                run.refused("tip(" + band + ", " + sort + ")", -3, Run.AS_NO);
            }
            // BAD ahead of NO.
            run.refused("tip(6, 0)", -2, Run.AS_BAD).refused("tip(0, 3)", -2, Run.AS_BAD).refused("tip(-1, 0)", -2, Run.AS_BAD);
            // One PRIOR is enough, and that SORT is sure.
            run.does("prior(" + sort + ", 1)");
            for (int other = 0; other < 3; other++) {
                run.share("tip(0, " + other + ")", other == sort ? 1 : 0, 1);
            }
            run.does("prior(" + sort + ", 0)").refused("tip(0, " + sort + ")", -3, Run.AS_NO).fraction(sort == 2 ? 1 : 0, 1);
        }
    }

    private static void layers() {
        Check.sentence(28, "so many arrows, darts in each (0 .. 99; 0 at first)");
        for (int layer = 0; layer < 8; layer++) {
            for (int what = 0; what < 2; what++) {
                String call = "layer(" + layer + ", " + what + ", ";
                Run run = Run.anew().is(call + "99)", 0).is(call + "0)", 99).is(call + "99)", 0);
                run.refused(call + "100)", -2, Run.AS_BAD).refused(call + "-1)", -2, Run.AS_BAD);
                run.is("layer(" + layer + ", " + (1 - what) + ", 1)", 0).is(call + "1)", 99);
            }
        }
    }

    private static void came() {
        Check.sentence(29, "by which arrows ahead of it and darts from it on are fewest, of like ones the first, the last");
        Run.anew().is("came(0)", 0).is("came(1)", 8).is("came(2)", 0);
        for (int layer = 0; layer < 8; layer++) {
            // An arrow: at or ahead of it. A dart: behind it.
            Run.anew().does("layer(" + layer + ", 0, 1)").is("came(0)", 0).is("came(1)", layer).is("came(2)", 0);
            Run.anew().does("layer(" + layer + ", 1, 1)").is("came(0)", layer + 1).is("came(1)", 8).is("came(2)", 0);
            // Both in one LAYER: one of them does not fit.
            Run both = Run.anew().does("layer(" + layer + ", 0, 1)", "layer(" + layer + ", 1, 1)");
            both.is("came(0)", 0).is("came(1)", 8).is("came(2)", 1);
        }
        // An arrow at 1, a dart at 4: like ones up to 1, and from 5 on, with others between.
        Run.anew().does("layer(1, 0, 1)", "layer(4, 1, 1)").is("came(0)", 0).is("came(1)", 8).is("came(2)", 1);
        Run.anew().does("layer(1, 0, 1)", "layer(4, 1, 2)").is("came(0)", 5).is("came(1)", 8).is("came(2)", 1);
        Run.anew().does("layer(1, 0, 2)", "layer(4, 1, 1)").is("came(0)", 0).is("came(1)", 1).is("came(2)", 1);
        Run.anew().does("layer(1, 1, 1)", "layer(4, 0, 1)").is("came(0)", 2).is("came(1)", 4).is("came(2)", 0);
    }

    private static void neverCame() {
        Check.sentence(29, "(0 .. 8; 8: never)");
        // Darts to the last LAYER: never; arrows from the first on: always.
        Run darts = Run.anew();
        Run arrows = Run.anew();
        Run both = Run.anew();
        for (int layer = 0; layer < 8; layer++) {
            darts.does("layer(" + layer + ", 1, 99)");
            arrows.does("layer(" + layer + ", 0, 99)");
            both.does("layer(" + layer + ", 0, 99)", "layer(" + layer + ", 1, 99)");
        }
        darts.is("came(0)", 8).is("came(1)", 8).is("came(2)", 0);
        arrows.is("came(0)", 0).is("came(1)", 0).is("came(2)", 0);
        both.is("came(0)", 0).is("came(1)", 8).is("came(2)", 8 * 99);
        both.does("layer(7, 1, 98)").is("came(0)", 0).is("came(1)", 7).is("came(2)", 8 * 99 - 1);
        both.does("layer(7, 0, 97)").is("came(0)", 8).is("came(1)", 8).is("came(2)", 8 * 99 - 2);
        both.does("layer(0, 1, 96)").is("came(0)", 0).is("came(1)", 0).is("came(2)", 8 * 99 - 4);
    }
}
