/** Promises 18 to 29: thorns, butts, hands, tips and layers. */
public final class FindsTest {
    private FindsTest() {
    }

    public static void main(String[] args) {
        thorn();
        kinds();
        land();
        butt();
        play();
        which();
        whichRefused();
        hands();
        knownAndPrior();
        tip();
        layer();
        came();
        Check.end();
    }

    private static void thorn() {
        ThrowHook x = new ThrowHook();
        int[][] wrong = {{0, 0, 5, 0}, {100, 0, 5, 0}, {5, -1, 5, 0}, {5, 4, 5, 0}, {5, 0, 0, 0}, {5, 0, 31, 0},
            {5, 0, 5, -1}, {5, 0, 5, 2}, {Integer.MIN_VALUE, 0, 5, 0}, {5, Integer.MAX_VALUE, 5, 0}};
        for (int[] v : wrong) {
            Check.due(18, "thorn, wrong", x.thorn(v[0], v[1], v[2], v[3]), -2);
        }
        for (int i = 0; i < 12; i++) {
            Check.due(18, "thorn", x.thorn(i % 2 == 0 ? 1 : 99, i % 4, i % 3 == 0 ? 1 : 30, i % 2), i);
        }
        Check.due(18, "thorn, a thirteenth", x.thorn(5, 0, 5, 0), -4);
        Check.due(18, "thorn, a thirteenth, wrong", x.thorn(5, 0, 5, 2), -2);
        Check.due(18, "count(4)", x.count(4), 12);
        Check.status("thorn", x, wrong.length + 1, 0, 1);
    }

    private static void cutAt(String call, int cut, int two, int... lengths) {
        ThrowHook x = new ThrowHook();
        for (int length : lengths) {
            x.thorn(length, 0, 1, 0);
        }
        long before = x.digest();
        Check.due(19, call + ": kinds(0)", x.kinds(0), cut);
        Check.due(19, call + ": kinds(1)", x.kinds(1), two);
        Check.due(19, call + ": digest()", x.digest(), before);
        Check.status(call, x, 0, 0, 0);
    }

    private static void kinds() {
        cutAt("none", -1, -1);
        cutAt("one", -1, -1, 50);
        cutAt("all of one length", -1, -1, 50, 50, 50);
        cutAt("two", 10, 1, 12, 10);
        cutAt("the least and the greatest", 1, 1, 99, 1);
        // SPREAD of all 2; 1 by either cut.
        cutAt("three in a row, like cuts", 10, 0, 12, 11, 10);
        // SPREAD of all 4; 2 by each cut, twice that is not less.
        cutAt("four in a row, like cuts", 1, 0, 1, 2, 3, 4);
        // SPREAD of all 1, 2, 4, 5: 6; cut at 2: 2.
        cutAt("two pairs", 2, 1, 5, 2, 4, 1);
        // 1, 2, 3, 4, 5: 6; cut at 2: 1 and 2; at 3: 2 and 1.
        cutAt("five in a row", 2, 0, 5, 4, 3, 2, 1);
        cutAt("one far off", 12, 1, 10, 90, 12, 11, 10);
        // Nine of 20, one of 30: 10; one kind of 20 alone.
        cutAt("like ones among others", 20, 1, 20, 30, 20, 20, 20, 20, 20, 20, 20, 20);
        cutAt("twelve", 33, 0, 1, 9, 17, 25, 33, 41, 49, 57, 65, 73, 81, 89);
        // SPREAD of all 10, of both 5: twice that is as much.
        cutAt("as much", 5, 0, 5, 15, 10);
        ThrowHook x = new ThrowHook();
        for (int v : new int[] {-1, 2, Integer.MIN_VALUE, Integer.MAX_VALUE}) {
            Check.due(19, "kinds, wrong", x.kinds(v), -2);
        }
        Check.status("kinds", x, 4, 0, 0);
    }

    private static void land() {
        ThrowHook x = new ThrowHook();
        x.thorn(10, 3, 1, 0);
        x.thorn(11, 3, 1, 0);
        x.thorn(12, 0, 1, 0);
        x.thorn(99, 2, 1, 0);
        Check.due(20, "land(3)", x.land(3), 1);
        Check.fraction(20, "land(3)", x, 21, 2);
        Check.due(20, "land(0)", x.land(0), 1);
        Check.fraction(20, "land(0)", x, 12, 1);
        Check.due(20, "land(1)", x.land(1), -3);
        Check.fraction(20, "refused", x, 12, 1);
        for (int v : new int[] {-1, 4, Integer.MAX_VALUE}) {
            Check.due(20, "land, wrong", x.land(v), -2);
        }
        Check.status("land", x, 3, 1, 0);
    }

    private static void butt() {
        ThrowHook x = new ThrowHook();
        for (int v : new int[] {0, 31, -1, Integer.MAX_VALUE}) {
            Check.due(21, "butt, wrong", x.butt(v), -2);
        }
        for (int i = 0; i < 6; i++) {
            Check.due(21, "butt", x.butt(i % 2 == 0 ? 1 : 30), i);
        }
        Check.due(21, "butt, a seventh", x.butt(1), -4);
        Check.due(21, "butt, a seventh, wrong", x.butt(0), -2);
        Check.due(21, "count(5)", x.count(5), 6);
        Check.status("butt", x, 5, 0, 1);
    }

    private static void play() {
        ThrowHook x = new ThrowHook();
        Check.due(22, "play", x.play(9), 1);
        Check.due(22, "play", x.play(0), 9);
        for (int v : new int[] {-1, 10, Integer.MIN_VALUE}) {
            Check.due(22, "play, wrong", x.play(v), -2);
        }
        Check.due(22, "play", x.play(1), 0);
        Check.status("play", x, 3, 0, 0);
    }

    private static ThrowHook found(int[] butts, int... hollows) {
        ThrowHook x = new ThrowHook();
        for (int thick : butts) {
            x.butt(thick);
        }
        for (int hollow : hollows) {
            x.thorn(1, 0, hollow, 0);
        }
        return x;
    }

    private static void which() {
        int[] six = {10, 10, 10, 10, 10, 10};
        ThrowHook x = found(six, 10, 10, 10, 10, 10, 10, 10, 10);
        Check.due(23, "six at six", x.which(-1, 0), 720);
        Check.due(23, "which(5, 5)", x.which(5, 5), 1);
        Check.fraction(23, "six at six", x, 1, 6);

        // PLAY 1: 5 goes with 4, 5 and 6, not with 3, 7.
        ThrowHook one = found(new int[] {5}, 3, 4, 5, 6, 7);
        Check.due(23, "one", one.which(-1, -77), 3);
        int[] want = {0, 1, 1, 1, 0};
        for (int thorn = 0; thorn < 5; thorn++) {
            Check.due(23, "which(0, " + thorn + ")", one.which(0, thorn), 1);
            Check.fraction(23, "which(0, " + thorn + ")", one, want[thorn], want[thorn] == 0 ? 1 : 3);
        }
        one.play(0);
        Check.due(23, "one, no PLAY", one.which(-1, 0), 1);
        one.play(2);
        Check.due(23, "one, PLAY 2", one.which(-1, 0), 5);

        ThrowHook two = found(new int[] {5, 6}, 5, 5, 6);
        two.play(0);
        Check.due(23, "two, no PLAY", two.which(-1, 0), 2);
        // 4 with THORNS 0, 1; 6 with 1, 2: rows 0 1, 0 2, 1 2.
        ThrowHook three = found(new int[] {4, 6}, 4, 5, 6);
        Check.due(23, "two", three.which(-1, 0), 3);
        Check.due(23, "which(0, 0)", three.which(0, 0), 1);
        Check.fraction(23, "which(0, 0)", three, 2, 3);
        Check.due(23, "which(1, 2)", three.which(1, 2), 1);
        Check.fraction(23, "which(1, 2)", three, 2, 3);
        Check.due(23, "which(0, 2)", three.which(0, 2), 1);
        Check.fraction(23, "which(0, 2)", three, 0, 1);
        Check.due(23, "which(0, 1)", three.which(0, 1), 1);
        Check.fraction(23, "which(0, 1)", three, 1, 3);
    }

    private static void whichRefused() {
        ThrowHook x = new ThrowHook();
        Check.due(23, "no BUTTS", x.which(-1, 0), -3);
        Check.due(23, "no BUTTS, wrong", x.which(0, 0), -2);
        x.thorn(1, 0, 5, 0);
        Check.due(23, "THORNS alone", x.which(-1, 0), -3);
        x.butt(7);
        Check.due(23, "no row", x.which(-1, 0), -3);
        Check.due(23, "no row, by one", x.which(0, 0), -3);
        x.play(2);
        Check.due(23, "a row", x.which(-1, 0), 1);
        x.butt(5);
        Check.due(23, "more BUTTS than THORNS", x.which(-1, 0), -3);
        for (int i = 0; i < 7; i++) {
            x.thorn(1, 0, 6, 0);
        }
        int[][] wrong = {{-2, 0}, {2, 0}, {0, -1}, {0, 6}, {0, 8}, {Integer.MIN_VALUE, 0}, {Integer.MAX_VALUE, 0},
            {0, Integer.MAX_VALUE}};
        for (int[] v : wrong) {
            Check.due(23, "which, wrong", x.which(v[0], v[1]), -2);
        }
        Check.due(23, "the last one", x.which(1, 5), 1);
        ThrowHook few = found(new int[] {5}, 5, 5);
        Check.due(23, "a THORN that is not there", few.which(0, 2), -2);
        // The first 6 alone count.
        ThrowHook late = found(new int[] {5}, 20, 20, 20, 20, 20, 20, 5);
        Check.due(23, "a seventh THORN", late.which(-1, 0), -3);
        Check.status("which", x, wrong.length + 1, 5, 0);
    }

    private static void hand(ThrowHook x, int thorn, int r, int w, int above, int below) {
        String call = "hands(" + thorn + ", " + r + ", " + w + ")";
        Check.due(24, call, x.hands(thorn, r, w), 1);
        Check.fraction(24, call, x, above, below);
    }

    private static void hands() {
        ThrowHook x = new ThrowHook();
        Check.due(24, "hands without thorns", x.hands(0, 5, 5), -2);
        x.thorn(1, 0, 1, 0);
        x.thorn(1, 0, 1, 1);
        hand(x, 1, 7, 8, 28, 31);
        hand(x, 0, 7, 8, 7, 19);
        hand(x, 1, 5, 5, 1, 2);
        hand(x, 0, 5, 5, 1, 2);
        hand(x, 1, 0, 5, 0, 1);
        hand(x, 1, 10, 5, 1, 1);
        hand(x, 0, 10, 0, 1, 1);
        hand(x, 0, 5, 10, 0, 1);
        hand(x, 1, 5, 10, 1, 1);
        Check.due(24, "right, none by right ones", x.hands(1, 10, 0), -3);
        Check.due(24, "right, none by left ones", x.hands(1, 0, 10), -3);
        Check.due(24, "left, none by right ones", x.hands(0, 10, 10), -3);
        Check.due(24, "left, none by left ones", x.hands(0, 0, 0), -3);
        Check.fraction(24, "refused", x, 1, 1);
        int[][] wrong = {{-1, 5, 5}, {2, 5, 5}, {0, -1, 5}, {0, 11, 5}, {0, 5, -1}, {0, 5, 11},
            {Integer.MAX_VALUE, 5, 5}, {0, Integer.MIN_VALUE, 5}};
        for (int[] v : wrong) {
            Check.due(24, "hands, wrong", x.hands(v[0], v[1], v[2]), -2);
        }
        Check.status("hands", x, wrong.length + 1, 4, 0);
    }

    private static void knownAndPrior() {
        ThrowHook x = new ThrowHook();
        for (int sort = 0; sort < 3; sort++) {
            for (int band = 0; band < 6; band++) {
                Check.due(25, "known, at first", x.known(sort, band, 10 * sort + band), 0);
            }
            Check.due(26, "prior, at first", x.prior(sort, 9 - sort), 1);
        }
        for (int sort = 0; sort < 3; sort++) {
            for (int band = 0; band < 6; band++) {
                Check.due(25, "known", x.known(sort, band, 99), 10 * sort + band);
                Check.due(25, "known", x.known(sort, band, 0), 99);
            }
            Check.due(26, "prior", x.prior(sort, 0), 9 - sort);
        }
        int[][] wrong = {{-1, 0, 5}, {3, 0, 5}, {0, -1, 5}, {0, 6, 5}, {0, 0, -1}, {0, 0, 100},
            {Integer.MIN_VALUE, 0, 5}, {0, Integer.MAX_VALUE, 5}};
        for (int[] v : wrong) {
            Check.due(25, "known, wrong", x.known(v[0], v[1], v[2]), -2);
        }
        int[][] wrongPriors = {{-1, 5}, {3, 5}, {0, -1}, {0, 10}, {Integer.MAX_VALUE, 5}};
        for (int[] v : wrongPriors) {
            Check.due(26, "prior, wrong", x.prior(v[0], v[1]), -2);
        }
        Check.status("known, prior", x, wrong.length + wrongPriors.length, 0, 0);
    }

    private static void tipIs(ThrowHook x, int band, int sort, int above, int below) {
        String call = "tip(" + band + ", " + sort + ")";
        Check.due(27, call, x.tip(band, sort), 1);
        Check.fraction(27, call, x, above, below);
    }

    private static void tip() {
        ThrowHook x = new ThrowHook();
        tipIs(x, 0, 0, 1, 3);
        tipIs(x, 5, 2, 1, 3);
        // 21 by 26, and twice 1 by 6.
        x.known(0, 0, 20);
        tipIs(x, 0, 0, 63, 89);
        tipIs(x, 0, 1, 13, 89);
        // 1 by 26, and twice 1 by 6.
        tipIs(x, 1, 0, 3, 29);
        // 63 by 26 and 1 by 3.
        x.prior(0, 3);
        tipIs(x, 0, 0, 189, 215);
        x.prior(2, 0);
        tipIs(x, 0, 2, 0, 1);
        tipIs(x, 0, 0, 189, 202);
        x.prior(0, 0);
        tipIs(x, 3, 1, 1, 1);
        x.prior(1, 0);
        Check.due(27, "tip, no PRIOR", x.tip(3, 1), -3);
        Check.fraction(27, "refused", x, 1, 1);
        int[][] wrong = {{-1, 0}, {6, 0}, {0, -1}, {0, 3}, {Integer.MAX_VALUE, 0}, {0, Integer.MIN_VALUE}};
        for (int[] v : wrong) {
            Check.due(27, "tip, wrong", x.tip(v[0], v[1]), -2);
        }
        Check.status("tip", x, wrong.length, 1, 0);
        // All as many as there may be: like ones again.
        for (int sort = 0; sort < 3; sort++) {
            x.prior(sort, 9);
            for (int band = 0; band < 6; band++) {
                x.known(sort, band, 99);
            }
        }
        tipIs(x, 2, 1, 1, 3);
        // 9 times 100 by 600; 9 times 100 by 501; 9 by 501.
        x.known(1, 0, 0);
        x.known(2, 2, 0);
        tipIs(x, 2, 0, 167, 369);
        tipIs(x, 2, 1, 200, 369);
        tipIs(x, 2, 2, 2, 369);
    }

    private static void layer() {
        ThrowHook x = new ThrowHook();
        for (int i = 0; i < 8; i++) {
            Check.due(28, "arrows, at first", x.layer(i, 0, i), 0);
            Check.due(28, "darts, at first", x.layer(i, 1, 99 - i), 0);
        }
        int[][] wrong = {{-1, 0, 5}, {8, 0, 5}, {0, -1, 5}, {0, 2, 5}, {0, 0, -1}, {0, 0, 100},
            {Integer.MAX_VALUE, 0, 5}, {0, Integer.MIN_VALUE, 5}};
        for (int[] v : wrong) {
            Check.due(28, "layer, wrong", x.layer(v[0], v[1], v[2]), -2);
        }
        for (int i = 0; i < 8; i++) {
            Check.due(28, "arrows", x.layer(i, 0, 0), i);
            Check.due(28, "darts", x.layer(i, 1, 0), 99 - i);
        }
        Check.status("layer", x, wrong.length, 0, 0);
    }

    private static void cameIs(String call, ThrowHook x, int first, int last, int fewest) {
        Check.due(29, call + ": came(0)", x.came(0), first);
        Check.due(29, call + ": came(1)", x.came(1), last);
        Check.due(29, call + ": came(2)", x.came(2), fewest);
    }

    private static void came() {
        ThrowHook x = new ThrowHook();
        cameIs("nothing", x, 0, 8, 0);
        for (int i = 0; i < 8; i++) {
            ThrowHook one = new ThrowHook();
            one.layer(i, 0, 1);
            cameIs("an arrow at " + i, one, 0, i, 0);
            if (i > 0) {
                one.layer(i - 1, 1, 1);
                cameIs("a dart, then an arrow at " + i, one, i, i, 0);
            }
        }
        x.layer(2, 1, 5);
        cameIs("darts at 2", x, 3, 8, 0);
        x.layer(5, 0, 4);
        cameIs("arrows at 5", x, 3, 5, 0);
        x.layer(7, 1, 2);
        cameIs("a late dart", x, 3, 5, 2);
        x.layer(7, 1, 4);
        cameIs("as late as many", x, 3, 8, 4);
        x.layer(7, 1, 9);
        cameIs("more of them", x, 8, 8, 4);
        x.layer(0, 0, 99);
        cameIs("arrows at 0", x, 0, 0, 14);
        x.layer(0, 1, 99);
        cameIs("both at 0", x, 8, 8, 103);
        for (int v : new int[] {-1, 3, Integer.MIN_VALUE, Integer.MAX_VALUE}) {
            Check.due(29, "came, wrong", x.came(v), -2);
        }
        Check.status("came", x, 4, 0, 0);
    }
}
