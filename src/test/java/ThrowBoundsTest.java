/** Promises 1 to 9: each sentence about throws that names a boundary case, the numbers by hand where they can be. */
public final class ThrowBoundsTest {
    private static final int RANGE = 0, PACE = 1, BEND = 2, OFF = 3, RISE = 4, ROUNDS = 5;

    private ThrowBoundsTest() {
    }

    public static void main(String[] args) {
        newObject();
        asManyAsThereMayBe();
        roundsOfPushing();
        early();
        soft();
        hard();
        high();
        overarm();
        weighted();
        load();
        handAndEnd();
        bends();
        pace();
        cuts();
        off();
        angles();
        drag();
        noLessThanNothing();
        tillItIsDown();
        rises();
        strikesAhead();
        strikesByHeight();
        strikesOff();
        strikesFar();
        cleanOnes();
        lengths();
        straight();
        contest();
        Check.end();
    }

    private static String fling(int kind, int x, int angle, int what) {
        return "fling(" + kind + ", " + x + ", 0, 0, 0, " + angle + ", " + what + ")";
    }

    /** All six of both throws are alike. */
    private static void alike(Run one, int kind, int x, int angle, Run other, int otherAngle) {
        for (int what = RANGE; what <= ROUNDS; what++) {
            one.is(fling(kind, x, angle, what), other.call(fling(0, 0, otherAngle, what)));
        }
    }

    private static Run thrower(String arm, String hook, String dart) {
        return Run.anew().does("arm(" + arm + ")", "hook(" + hook + ")", "dart(" + dart + ")");
    }

    private static void newObject() {
        Check.sentence(1, "no ARMS, HOOKS, DARTS");
        Run run = Run.anew().is("count(0)", 0).is("count(1)", 0).is("count(2)", 0);
        run.refused("fling(0, 0, 0, 0, 0, 0, 0)", -100000, Run.AS_BAD);
        run.refused("strikes(0, 0, 0, 0, 1)", -2, Run.AS_BAD).refused("length(0, 0, 0, 0)", -2, Run.AS_BAD);
        run.refused("straight(0, 0, 0, 0)", -2, Run.AS_BAD).refused("contest(0, 0, 0, 0, 20, 300)", -2, Run.AS_BAD);
        // Two of the three are not enough.
        for (int missing = 0; missing < 3; missing++) {
            Run two = Run.anew();
            String[] three = {"arm(20, 1, 0)", "hook(0, 0, 0)", "dart(60, 1, 0, 0)"};
            for (int i = 0; i < 3; i++) {
                if (i != missing) {
                    two.does(three[i]);
                }
            }
            two.refused("fling(0, 0, 0, 0, 0, 0, 0)", -100000, Run.AS_BAD).refused("strikes(0, 0, 0, 0, 1)", -2, Run.AS_BAD);
            two.refused("length(0, 0, 0, 0)", -2, Run.AS_BAD).refused("straight(0, 0, 0, 0)", -2, Run.AS_BAD);
            two.refused("contest(0, 0, 0, 0, 20, 300)", -2, Run.AS_BAD);
            two.does(three[missing]).is(fling(0, 0, 0, RANGE), 50);
        }
    }

    private static void asManyAsThereMayBe() {
        four(2, "An ARM: its number. BAD; FULL: 4.", "arm(20, 1, 0)", "arm(19, 1, 0)", "count(0)");
        four(3, "A HOOK: its number. BAD; FULL: 4.", "hook(0, 0, 0)", "hook(0, 0, 1)", "count(1)");
        four(4, "A DART: its number. BAD; FULL: 4.", "dart(20, 1, 0, 0)", "dart(301, 1, 0, 0)", "count(2)");
        Check.sentence(2, "3, as they come: REACH");
        // Each number means the one that came so: PACE 10, 20, 30, 40.
        Run run = Run.anew().does("arm(20, 1, 0)", "arm(20, 2, 0)", "arm(20, 3, 0)", "arm(20, 4, 0)");
        run.does("hook(0, 0, 0)", "dart(60, 99, 0, 0)");
        for (int arm = 0; arm < 4; arm++) {
            run.is("fling(0, 0, " + arm + ", 0, 0, 0, 1)", 10 * (arm + 1));
        }
        run.refused("arm(20, 9, 0)", -4, Run.AS_FULL).is("fling(0, 0, 3, 0, 0, 0, 1)", 40);
        Check.sentence(3, "HOOKS 0 .. 3: LENGTH");
        // HOOK i with DART i makes a LOAD of 60, 120, 179, 239: HAND 12, 6, 4, 3 in a ROUND, END 12, 6, 4, 4.
        run = Run.anew().does("arm(20, 12, 0)", "hook(0, 0, 0)", "hook(1, 59, 1)", "hook(2, 89, 2)", "hook(9, 95, 9)");
        run.does("dart(60, 99, 0, 0)", "dart(90, 99, 0, 0)", "dart(118, 99, 0, 0)", "dart(145, 99, 0, 0)");
        Check.sentence(4, "DARTS 0 .. 3: MASS");
        run.is("fling(1, 19, 0, 0, 0, 0, 1)", 12).is("fling(1, 19, 0, 1, 1, 0, 1)", 6);
        run.is("fling(1, 19, 0, 2, 2, 0, 1)", 4).is("fling(1, 19, 0, 3, 3, 0, 1)", 4);
        // With HOOK 0 the DARTS alone: 720 by 60, 90, 118, 145.
        run.is("fling(1, 19, 0, 0, 1, 0, 1)", 8).is("fling(1, 19, 0, 0, 2, 0, 1)", 6).is("fling(1, 19, 0, 0, 3, 0, 1)", 4);
    }

    private static void four(int promise, String words, String call, String wrong, String count) {
        Check.sentence(promise, words);
        Run run = Run.anew();
        for (int i = 0; i < 4; i++) {
            run.refused(wrong, -2, Run.AS_BAD).is(count, i).is(call, i).is(count, i + 1);
        }
        run.refused(call, -4, Run.AS_FULL).refused(wrong, -2, Run.AS_BAD).refused(call, -4, Run.AS_FULL).is(count, 4);
        run.is("status(0)", 5).is("status(1)", 0).is("status(2)", 2);
    }

    /** By STRENGTH 1 and MASS 60 the HAND is 1 more in each ROUND, and so are END and PACE. */
    private static Run counting(int lag) {
        return thrower("20, 1, " + lag, "0, 0, 0", "60, 99, 0, 0");
    }

    private static void roundsOfPushing() {
        Check.sentence(5, "in each of (10 and LAG) ROUNDS");
        for (int lag = 0; lag <= 9; lag++) {
            counting(lag).is(fling(0, 0, 0, PACE), 10 + lag).is(fling(0, 19, 0, PACE), 10 + lag);
        }
    }

    private static void early() {
        Check.sentence(5, "1 EARLY (under CLEAN): x ROUNDS of PUSHING fewer, 1 at least.");
        for (int lag = 0; lag <= 9; lag += 9) {
            Run run = counting(lag);
            for (int x = 0; x <= 19; x++) {
                run.is(fling(1, x, 0, PACE), Math.max(1, 10 + lag - x));
            }
        }
        counting(0).is(fling(1, 8, 0, PACE), 2).is(fling(1, 9, 0, PACE), 1).is(fling(1, 10, 0, PACE), 1)
                .is(fling(1, 19, 0, PACE), 1);
        counting(9).is(fling(1, 0, 0, PACE), 19).is(fling(1, 17, 0, PACE), 2).is(fling(1, 18, 0, PACE), 1)
                .is(fling(1, 19, 0, PACE), 1);
    }

    /** Of this STIFF with this arm. */
    private static Run stiff(int stiff, int strength) {
        return thrower("20, " + strength + ", 0", "0, 0, 0", "60, " + stiff + ", 0, 1");
    }

    private static void soft() {
        Check.sentence(5, "2 SOFT (under CLEAN): STIFF half of it, 1 at least.");
        int[][] halves = {{1, 1}, {2, 1}, {3, 1}, {4, 2}, {5, 2}, {98, 49}, {99, 49}};
        for (int[] one : halves) {
            for (int strength : new int[] {3, 30, 99}) {
                alike(stiff(one[0], strength), 2, 0, 2, stiff(one[1], strength), 2);
            }
        }
        // END 2, 4 .. 20: by STIFF 1 BEND is 0, 1, 2, 4 .. 16; by STIFF 3 it is 4 at last.
        stiff(1, 2).is(fling(2, 19, 0, BEND), 16).is(fling(0, 0, 0, BEND), 16);
        stiff(3, 2).is(fling(2, 19, 0, BEND), 16).is(fling(0, 0, 0, BEND), 4);
    }

    private static void hard() {
        Check.sentence(5, "3 HARD (under SOFT): STIFF twice it in place of that, 99 at most.");
        int[][] doubles = {{1, 2}, {3, 6}, {48, 96}, {49, 98}, {50, 99}, {51, 99}, {98, 99}, {99, 99}};
        for (int[] one : doubles) {
            for (int strength : new int[] {3, 30, 98, 99}) {
                alike(stiff(one[0], strength), 3, 0, 2, stiff(one[1], strength), 2);
            }
        }
        // At END 990 STIFF 99 bends to 8, STIFF 100 would to 7.
        stiff(50, 99).is(fling(3, 0, 0, BEND), stiff(99, 99).call(fling(0, 0, 0, BEND)));
    }

    private static void high() {
        Check.sentence(5, "4 HIGH (under CLEAN): ANGLE 1 more, 6 at most.");
        Run run = thrower("60, 70, 6", "40, 30, 25", "80, 31, 12, 4");
        for (int angle = 0; angle <= 6; angle++) {
            alike(run, 4, 19, angle, run, Math.min(6, angle + 1));
        }
        run.is(fling(4, 0, 5, RANGE), 16039).is(fling(4, 0, 6, RANGE), 16039).is(fling(4, 0, 4, RANGE), 19394);
    }

    private static void overarm() {
        Check.sentence(5, "5 OVERARM (under EARLY): LENGTH, WEIGHT, PLACE 0 (and EARLY).");
        Run with = thrower("20, 1, 9", "99, 99, 99", "60, 99, 0, 0");
        Run without = counting(9);
        alike(with, 5, 0, 3, without, 3);
        for (int x = 0; x <= 19; x++) {
            with.is(fling(5, x, 0, PACE), Math.max(1, 19 - x));
        }
        // With the hook the LOAD is 257: no HAND at all.
        with.is(fling(0, 0, 0, PACE), 0).is(fling(5, 0, 0, PACE), 19);
    }

    private static void weighted() {
        Check.sentence(5, "6 WEIGHTED (under CLEAN): WEIGHT x more.");
        Run run = thrower("20, 12, 0", "1, 80, 1", "60, 9, 0, 1");
        alike(run, 6, 0, 2, run, 2);
        alike(run, 6, 19, 2, thrower("20, 12, 0", "1, 99, 1", "60, 9, 0, 1"), 2);
        // WEIGHT 118 by 2 is 59, WEIGHT 99 by 2 is 49: as if MASS were 10 more.
        alike(thrower("20, 12, 0", "1, 99, 1", "60, 9, 0, 1"), 6, 19, 2,
                thrower("20, 12, 0", "1, 99, 1", "70, 9, 0, 1"), 2);
        // At PLACE 0 no WEIGHT counts.
        Run held = thrower("20, 12, 0", "1, 99, 0", "60, 9, 0, 1");
        alike(held, 6, 19, 2, held, 2);
    }

    /** PACE of one ROUND tells the LOAD: by STRENGTH 30 the HAND is 1800 by it (and STIFF 99 does not bend). */
    private static void loadIs(String hook, int mass, int tip, int load) {
        int length = Integer.parseInt(hook.substring(0, hook.indexOf(',')));
        int end = 1800 / load * (90 + length) / 90;
        thrower("90, 30, 0", hook, mass + ", 99, " + tip + ", 0").is(fling(1, 19, 0, PACE), end);
    }

    private static void load() {
        Check.sentence(5, "LOAD is MASS, TIP, LENGTH and WEIGHT times PLACE by (LENGTH and 1) together");
        loadIs("0, 0, 0", 20, 0, 20);
        loadIs("0, 0, 0", 300, 60, 360);
        loadIs("0, 99, 0", 20, 0, 20);
        loadIs("1, 1, 1", 20, 0, 21);
        loadIs("1, 2, 1", 20, 0, 22);
        loadIs("1, 99, 1", 20, 0, 70);
        loadIs("99, 99, 0", 20, 1, 120);
        loadIs("99, 99, 1", 20, 1, 120);
        loadIs("99, 99, 2", 20, 1, 121);
        loadIs("99, 99, 99", 20, 1, 218);
        loadIs("99, 99, 99", 300, 60, 557);
    }

    private static void handAndEnd() {
        Check.sentence(5, "HAND is 60 STRENGTH by LOAD more");
        // By LOAD 59, 60 it is 1, by 61 nothing; by 30 it is 2, by 31 it is 1.
        int[][] hands = {{30, 2}, {31, 1}, {59, 1}, {60, 1}, {61, 0}, {300, 0}};
        for (int[] one : hands) {
            Run.oneRound(1, one[0], 99, 0).is(fling(1, 19, 0, PACE), one[1]);
        }
        thrower("20, 1, 0", "0, 0, 0", "61, 1, 0, 0").is(fling(0, 0, 0, PACE), 0).is(fling(0, 0, 0, BEND), 0)
                .is(fling(0, 0, 0, OFF), 10).is(fling(0, 0, 0, RANGE), 0).is(fling(0, 0, 0, ROUNDS), 5);
        Check.sentence(5, "END is HAND times (REACH and LENGTH) by REACH");
        // HAND 1: with REACH 90 LENGTH 89 makes 179 by 90, LENGTH 90 makes 2, LENGTH 99 no more.
        thrower("90, 2, 0", "89, 0, 0", "31, 99, 0, 0").is(fling(1, 19, 0, PACE), 1);
        thrower("90, 2, 0", "90, 0, 0", "30, 99, 0, 0").is(fling(1, 19, 0, PACE), 2);
        thrower("90, 2, 0", "99, 0, 0", "21, 99, 0, 0").is(fling(1, 19, 0, PACE), 2);
        thrower("20, 2, 0", "99, 0, 0", "21, 99, 0, 0").is(fling(1, 19, 0, PACE), 5);
    }

    private static void bends() {
        Check.sentence(5, "BEND is (END times (10 and TIP) by (10 STIFF) less BEND) by 3 more");
        // One ROUND of MASS 60: END is STRENGTH; 2 by 3 is none, 3 by 3 is 1.
        Run.oneRound(2, 60, 1, 0).is(fling(1, 19, 0, BEND), 0);
        Run.oneRound(3, 60, 1, 0).is(fling(1, 19, 0, BEND), 1);
        // 5 by 2 is 2, 6 by 2 is 3.
        Run.oneRound(5, 60, 2, 0).is(fling(1, 19, 0, BEND), 0);
        Run.oneRound(6, 60, 2, 0).is(fling(1, 19, 0, BEND), 1);
        Run.oneRound(99, 60, 33, 0).is(fling(1, 19, 0, BEND), 1);
        Run.oneRound(98, 60, 33, 0).is(fling(1, 19, 0, BEND), 0);
        // TIP 60: seven times as much. LOAD 80, HAND and END 60 STRENGTH by it: 3, 21 by 3.
        thrower("20, 4, 0", "0, 0, 0", "20, 1, 60, 0").is(fling(1, 19, 0, BEND), 7).is(fling(1, 8, 0, BEND), 18);
        // TIP 1: 27 times 11 by 10 is 29, TIP 2 in 30 times 12 by 10 is 36.
        thrower("20, 27, 0", "0, 0, 0", "59, 1, 1, 0").is(fling(1, 19, 0, BEND), 9);
        thrower("20, 30, 0", "0, 0, 0", "58, 1, 2, 0").is(fling(1, 19, 0, BEND), 12);
    }

    private static void pace() {
        Check.sentence(5, "PACE is END and BEND times STIFF by 50");
        // One ROUND of MASS 20: END 3 STRENGTH, BEND by STIFF 1 as much as STRENGTH.
        Run.oneRound(49, 20, 1, 0).is(fling(1, 19, 0, BEND), 49).is(fling(1, 19, 0, PACE), 147);
        Run.oneRound(50, 20, 1, 0).is(fling(1, 19, 0, BEND), 50).is(fling(1, 19, 0, PACE), 151);
        Run.oneRound(99, 20, 1, 0).is(fling(1, 19, 0, BEND), 99).is(fling(1, 19, 0, PACE), 298);
        // BEND 1: STIFF 49 gives nothing, STIFF 50 gives 1.
        Run.oneRound(49, 20, 49, 0).is(fling(1, 19, 0, BEND), 1).is(fling(1, 19, 0, PACE), 147);
        Run.oneRound(50, 20, 50, 0).is(fling(1, 19, 0, BEND), 1).is(fling(1, 19, 0, PACE), 151);
    }

    private static void cuts() {
        Check.sentence(5, "(All that is divided is cut towards 0.)");
        // Just below a whole number each time: HAND 60 by 31; END 179 by 90; BEND 2 by 3; BEND times STIFF 49 by 50.
        thrower("20, 1, 0", "0, 0, 0", "31, 99, 0, 0").is(fling(1, 19, 0, PACE), 1);
        thrower("90, 2, 0", "89, 0, 0", "31, 99, 0, 0").is(fling(1, 19, 0, PACE), 1);
        Run.oneRound(2, 60, 1, 0).is(fling(1, 19, 0, BEND), 0);
        Run.oneRound(49, 20, 49, 0).is(fling(1, 19, 0, PACE), 147);
        // VX 98 of PACE 1, 99 times DRAG 10 by 1000, OFF 50 times 1019 by 1000.
        Run.oneRound(1, 60, 99, 0).is(fling(1, 19, 1, RANGE), 0);
        Run.oneRound(66, 40, 2, 3).is(fling(1, 19, 0, RANGE), 495);
        thrower("20, 14, 0", "0, 0, 0", "21, 4, 0, 1").is("strikes(0, 0, 0, 0, 1019)", 1);
    }

    private static void off() {
        Check.sentence(5, "OFF: how far BEND is below 10, above 30; else 0.");
        // One ROUND of MASS 60: BEND a third of STRENGTH.
        int[][] offs = {{1, 0, 10}, {3, 1, 9}, {26, 8, 2}, {27, 9, 1}, {29, 9, 1}, {30, 10, 0}, {33, 11, 0}, {60, 20, 0},
            {87, 29, 0}, {90, 30, 0}, {92, 30, 0}, {93, 31, 1}, {96, 32, 2}, {99, 33, 3}};
        for (int[] one : offs) {
            Run.oneRound(one[0], 60, 1, 0).is(fling(1, 19, 0, BEND), one[1]).is(fling(1, 19, 0, OFF), one[2]);
        }
    }

    /** PACE 100, OFF 0, TAIL 0: VX by DRAG 4 stays, VY is 10 less each ROUND. */
    private static void angles() {
        Check.sentence(5, "of 100 it goes on, up, by ANGLE: 100 0; 98 17; 94 34; 87 50; 77 64; 64 77; 50 87");
        int[] on = {100, 98, 94, 87, 77, 64, 50};
        int[] up = {0, 17, 34, 50, 64, 77, 87};
        int[] rises = {150, 157, 192, 250, 324, 409, 486};
        int[] rounds = {5, 7, 10, 12, 14, 17, 19};
        Run run = Run.oneRound(67, 40, 2, 0).is(fling(1, 19, 0, PACE), 100).is(fling(1, 19, 0, OFF), 0);
        for (int angle = 0; angle <= 6; angle++) {
            run.is(fling(1, 19, angle, RANGE), (long) on[angle] * rounds[angle]);
            run.is(fling(1, 19, angle, RISE), rises[angle]).is(fling(1, 19, angle, ROUNDS), rounds[angle]);
            int y = 150;
            int vy = up[angle];
            for (int i = 0; i < rounds[angle]; i++) {
                Check.isTrue("above 0 ahead of the last ROUND", y > 0);
                vy -= 10;
                y += vy;
            }
            Check.isTrue("0 or less behind it", y <= 0);
        }
        Check.sentence(5, "VX is PACE times the one by 100, VY times the other by 100");
        // By ANGLE 0 no PACE goes up or down: END is 19 times 297, and BEND 51 times 99 by 50 is 100 more.
        thrower("20, 99, 9", "0, 0, 0", "20, 99, 0, 9").is(fling(0, 0, 0, ROUNDS), 5).is(fling(0, 0, 0, RISE), 150)
                .is(fling(0, 0, 0, BEND), 51).is(fling(0, 0, 0, PACE), 19 * 297 + 100);
        // PACE 1: nothing of it goes on but by ANGLE 0. PACE 2: 1 by all others, by the highest for a ROUND more.
        run = Run.oneRound(1, 60, 99, 0);
        run.is(fling(1, 19, 0, RANGE), 5).is(fling(1, 19, 1, RANGE), 0).is(fling(1, 19, 6, RANGE), 0);
        run = Run.oneRound(2, 60, 99, 0);
        run.is(fling(1, 19, 0, RANGE), 10).is(fling(1, 19, 1, RANGE), 5).is(fling(1, 19, 6, RANGE), 6);
    }

    private static void drag() {
        Check.sentence(5, "DRAG is 4, twice TAIL and OFF together (with TAIL 0: 4 and 3 times OFF)");
        // PACE 100, OFF 0: by DRAG 8 it stays so; by 10 it is 99 from the first ROUND on; by 12 .. 18 always 1 less;
        // by 20 first 2 less; by 22 always so.
        int[] ranges = {500, 500, 500, 495, 485, 485, 485, 485, 480, 470};
        for (int tail = 0; tail <= 9; tail++) {
            Run.oneRound(67, 40, 2, tail).is(fling(1, 19, 0, OFF), 0).is(fling(1, 19, 0, RANGE), ranges[tail]);
        }
        // OFF 3: DRAG 13 by TAIL 0, 9 by TAIL 1, 11 by TAIL 2.
        Run.oneRound(67, 40, 1, 0).is(fling(1, 19, 0, OFF), 3).is(fling(1, 19, 0, RANGE), 99 + 98 + 97 + 96 + 95);
        Run.oneRound(67, 40, 1, 1).is(fling(1, 19, 0, OFF), 3).is(fling(1, 19, 0, RANGE), 500);
        Run.oneRound(67, 40, 1, 2).is(fling(1, 19, 0, OFF), 3).is(fling(1, 19, 0, RANGE), 99 + 98 + 97 + 96 + 95);
        Check.sentence(5, "VX is VX times DRAG by 1000 less");
        // DRAG 10: VX 99 stays.
        Run.oneRound(66, 40, 2, 3).is(fling(1, 19, 0, PACE), 99).is(fling(1, 19, 0, RANGE), 495);
    }

    private static void noLessThanNothing() {
        Check.sentence(5, "VX is VX times DRAG by 1000 less, 0 at least");
        // OFF is some thousands here, so that DRAG alone would throw it back.
        Run run = thrower("20, 99, 0", "0, 0, 0", "20, 1, 60, 0");
        Check.isTrue("OFF is above 4000", run.call(fling(0, 0, 0, OFF)) > 4000);
        run.is(fling(0, 0, 0, RANGE), 0).is(fling(0, 0, 6, RANGE), 0);
        Check.isTrue("PACE is above 700", run.call(fling(0, 0, 0, PACE)) > 700);
        Check.isTrue("it flies long", run.call(fling(0, 0, 6, ROUNDS)) > 100);
        // With a TAIL it has gone nowhere, too.
        thrower("20, 99, 0", "0, 0, 0", "20, 1, 60, 9").is(fling(0, 0, 0, RANGE), 0);
    }

    /** By ANGLE 0: y 140, 120, 90, 50 and just 0. */
    private static void tillItIsDown() {
        Check.sentence(5, "till y is 0 or less. RANGE: x then");
        thrower("20, 1, 0", "0, 0, 0", "60, 1, 0, 0").is(fling(0, 0, 0, ROUNDS), 5).is(fling(0, 0, 0, RANGE), 50);
        // VY 40: y is 60 behind the 9th ROUND, 0 behind the 10th; VY 41: 69, 10, then 59 below.
        falling().is(fling(0, 0, 5, ROUNDS), 10).is(fling(0, 0, 5, RANGE), 330);
        higher().is(fling(0, 0, 5, ROUNDS), 11).is(fling(0, 0, 5, RANGE), 374);
        // At a height of 1 it goes on: behind the 149th ROUND of 150.
        thrower("53, 61, 0", "54, 0, 0", "31, 94, 2, 9").is(fling(0, 0, 6, ROUNDS), 150).is(fling(0, 0, 6, RANGE), 19506);
    }

    private static void rises() {
        Check.sentence(5, "RISE: the greatest y (150 ahead)");
        // By ANGLE 1 PACE 64 goes up by 10, that is by none in the first ROUND; PACE 65 by 11.
        Run.oneRound(58, 60, 99, 0).is(fling(1, 19, 1, RISE), 150);
        Run.oneRound(64, 60, 99, 0).is(fling(1, 19, 1, RISE), 150);
        Run.oneRound(65, 60, 99, 0).is(fling(1, 19, 1, RISE), 151);
        Run.oneRound(1, 60, 99, 0).is(fling(1, 19, 6, RISE), 150);
        // 180, 200, 210, 210.
        falling().is(fling(0, 0, 5, RISE), 210);
        higher().is(fling(0, 0, 5, RISE), 214);
    }

    /** PACE 52, VX 33, VY 40 by ANGLE 5: y 180, 200, 210, 210, 200, 180, 150, 110, 60, 0. */
    private static Run falling() {
        return thrower("20, 4, 3", "0, 0, 0", "60, 99, 0, 1");
    }

    /** PACE 54, VX 34, VY 41: y 181, 202, 213, 214, 205, 186, 157, 118, 69, 10, below 0. */
    private static Run higher() {
        return thrower("20, 3, 8", "0, 0, 0", "60, 99, 0, 1");
    }

    private static void strikesAt(Run run, int angle, int from, int to, int want) {
        run.is("strikes(0, 0, 0, " + angle + ", " + from + ")", want);
        run.is("strikes(0, 0, 0, " + angle + ", " + to + ")", want);
    }

    private static void strikesAhead() {
        Check.sentence(6, "in the first ROUND behind which x is d or more");
        Run run = falling();
        // x is 33 more behind each ROUND: the first, second, fifth, sixth, ninth.
        strikesAt(run, 5, 1, 33, 1);
        strikesAt(run, 5, 34, 66, 0);
        strikesAt(run, 5, 133, 165, 0);
        strikesAt(run, 5, 166, 198, 1);
        strikesAt(run, 5, 265, 297, 1);
        // It never comes so far.
        strikesAt(run, 5, 331, 20000, 0);
        strikesAt(run, 5, 332, 5000, 0);
        // What can not move comes nowhere.
        strikesAt(thrower("20, 1, 0", "0, 0, 0", "61, 1, 0, 0"), 0, 1, 20000, 0);
    }

    private static void strikesByHeight() {
        Check.sentence(6, "y is above 0 and 180 at most");
        strikesAt(falling(), 5, 1, 33, 1);
        strikesAt(higher(), 5, 1, 34, 0);
        // 186, then 157.
        strikesAt(higher(), 5, 171, 204, 0);
        strikesAt(higher(), 5, 205, 238, 1);
        // 60, then just 0; 10, then 59 below.
        strikesAt(falling(), 5, 265, 297, 1);
        strikesAt(falling(), 5, 298, 330, 0);
        strikesAt(higher(), 5, 307, 340, 1);
        strikesAt(higher(), 5, 341, 374, 0);
        // At a height of 1 it strikes.
        Run one = thrower("53, 61, 0", "54, 0, 0", "31, 94, 2, 9");
        strikesAt(one, 6, 19425, 19465, 1);
        strikesAt(one, 6, 19466, 19506, 0);
    }

    private static void strikesOff() {
        Check.sentence(6, "OFF times d by 1000 is no more than 50");
        // By ANGLE 0 it is low enough up to 1414, 1445. OFF 50: 1019 makes 50, 1020 makes 51.
        Run fifty = thrower("20, 14, 0", "0, 0, 0", "21, 4, 0, 1").is(fling(0, 0, 0, OFF), 50);
        strikesAt(fifty, 0, 1, 1000, 1);
        strikesAt(fifty, 0, 1001, 1019, 1);
        strikesAt(fifty, 0, 1020, 1414, 0);
        // OFF 51: 999 makes 50, 1000 makes 51.
        Run more = thrower("20, 16, 0", "0, 0, 0", "23, 4, 0, 1").is(fling(0, 0, 0, OFF), 51);
        strikesAt(more, 0, 1, 999, 1);
        strikesAt(more, 0, 1000, 1445, 0);
        // Some thousands OFF and not a step ahead.
        strikesAt(thrower("20, 99, 0", "0, 0, 0", "20, 1, 60, 0"), 0, 1, 20000, 0);
    }

    private static void strikesFar() {
        Check.sentence(6, "STRIKES at a distance d (1 .. 20000)");
        // It comes down at 20088, 20 high, then at 20237.
        Run run = thrower("20, 12, 8", "0, 0, 0", "20, 31, 0, 9").is(fling(0, 0, 3, RANGE), 20237);
        run.is("strikes(0, 0, 0, 3, 19936)", 0);
        strikesAt(run, 3, 19937, 20000, 1);
        run.refused("strikes(0, 0, 0, 3, 20001)", -2, Run.AS_BAD).refused("strikes(0, 0, 0, 3, 0)", -2, Run.AS_BAD);
        run.is("strikes(0, 0, 0, 3, 1)", 0).is("strikes(0, 0, 0, 0, 1)", 1);
    }

    private static void cleanOnes() {
        Check.sentence(6, "Whether a CLEAN one STRIKES at a distance: 1, 0.");
        // CLEAN it is at 297 behind its 9th ROUND; whatever was flung ahead, it is CLEAN again.
        for (int kind = 0; kind <= 6; kind++) {
            Run run = falling();
            run.call(fling(kind, 19, 3, RANGE));
            strikesAt(run, 5, 265, 297, 1);
            run.call(fling(kind, 19, 3, RANGE));
            long length = falling().call("length(0, 0, 0, 5)");
            run.is("length(0, 0, 0, 5)", length).is(fling(0, 0, 5, RANGE), 330);
            run.call(fling(kind, 19, 3, RANGE));
            run.is("contest(0, 0, 0, 5, 60, 300)", 60).is("straight(0, 0, 0, 0)", falling().call("straight(0, 0, 0, 0)"));
        }
    }

    private static void lengths() {
        Check.sentence(7, "of LENGTH 0 .. 99");
        Run.anew().does("arm(75, 57, 1)", "hook(30, 0, 6)", "dart(185, 22, 47, 3)").is("length(0, 0, 0, 5)", 99);
        Check.sentence(7, "PLACE as told, but no more than LENGTH; CLEAN");
        // At LENGTH 0 the WEIGHT does not count, since PLACE is 0 there.
        Run run = Run.anew().does("arm(60, 70, 6)", "hook(99, 99, 99)", "hook(99, 99, 10)", "dart(80, 31, 12, 4)");
        run.is("length(0, 0, 0, 3)", 0).is("length(0, 1, 0, 3)", 52);
        // The hook stays as it was told.
        run.is("fling(0, 0, 0, 1, 0, 3, 0)", Run.anew().does("arm(60, 70, 6)", "hook(99, 99, 10)", "dart(80, 31, 12, 4)")
                .call("fling(0, 0, 0, 0, 0, 3, 0)"));
        Check.sentence(7, "that with the greatest RANGE, of like ones the least. STRAIGHT");
        // Too weak an arm: RANGE 0 by all.
        thrower("90, 1, 0", "50, 5, 5", "300, 1, 0, 0").is("length(0, 0, 0, 3)", 0).is("length(0, 0, 0, 0)", 0);
        // REACH 20: HAND 30 by LOAD 20, then 20 up to LOAD 30, then 10 up to 60: END 30 by LENGTH 0, 10, 40.
        thrower("20, 1, 0", "0, 0, 0", "20, 99, 0, 0").is("length(0, 0, 0, 0)", 0);
        // MASS 21: END 20 by LENGTH 0, 29 by LENGTH 9, 38, 39.
        thrower("20, 1, 0", "0, 0, 0", "21, 99, 0, 0").is("length(0, 0, 0, 0)", 9);
    }

    private static void straight() {
        Check.sentence(8, "STIFF 1 .. 99 by which OFF is 0 (CLEAN): the least, the greatest");
        // By the slow arm STIFF 1 alone, 1 and 2, 2 alone; by a strong one up to 99.
        String[] arms = {"20, 2, 0", "20, 3, 0", "20, 4, 0"};
        int[][] want = {{1, 1}, {1, 2}, {2, 2}};
        for (int i = 0; i < 3; i++) {
            Run run = thrower(arms[i], "0, 0, 0", "60, 50, 0, 0");
            run.is("straight(0, 0, 0, 0)", want[i][0]).is("straight(0, 0, 0, 1)", want[i][1]);
        }
        Run strong = thrower("60, 70, 6", "40, 30, 25", "80, 1, 12, 4");
        strong.is("straight(0, 0, 0, 0)", 45).is("straight(0, 0, 0, 1)", 99);
        Check.sentence(8, "NONE: none. BAD.");
        Run weak = thrower("20, 1, 0", "0, 0, 0", "60, 1, 0, 0");
        weak.counted("straight(0, 0, 0, 0)", -1).counted("straight(0, 0, 0, 1)", -1);
        // Wrong numbers are refused there, too.
        weak.refused("straight(0, 0, 0, 2)", -2, Run.AS_BAD).refused("straight(1, 0, 0, 0)", -2, Run.AS_BAD);
    }

    private static void contest() {
        Check.sentence(9, "20 <= a <= b <= 300");
        Run run = thrower("20, 1, 0", "0, 0, 0", "60, 20, 0, 1");
        run.is("contest(0, 0, 0, 3, 20, 300)", 20).is("contest(0, 0, 0, 3, 20, 20)", 20);
        run.is("contest(0, 0, 0, 3, 300, 300)", 300).is("contest(0, 0, 0, 3, 21, 21)", 21);
        run.refused("contest(0, 0, 0, 3, 21, 20)", -2, Run.AS_BAD).refused("contest(0, 0, 0, 3, 300, 299)", -2, Run.AS_BAD);
        run.refused("contest(0, 0, 0, 3, 300, 20)", -2, Run.AS_BAD).refused("contest(0, 0, 0, 3, 19, 20)", -2, Run.AS_BAD);
        run.refused("contest(0, 0, 0, 3, 300, 301)", -2, Run.AS_BAD);
        // The best of them stands at an end of a .. b.
        Run light = thrower("56, 85, 4", "35, 5, 22", "29, 29, 47, 1");
        light.is("contest(0, 0, 0, 1, 36, 40)", 40).is("contest(0, 0, 0, 1, 39, 40)", 40);
        Check.sentence(9, "that with the greatest RANGE, of like ones the least. ```");
        // HAND is 3 by LOAD 20, 2 from 21 to 30, 1 from 31 to 60, none from 61 on.
        Run steps = thrower("20, 1, 0", "0, 0, 0", "60, 99, 0, 1");
        steps.is("contest(0, 0, 0, 0, 20, 300)", 20).is("contest(0, 0, 0, 0, 21, 300)", 21);
        steps.is("contest(0, 0, 0, 0, 30, 300)", 30).is("contest(0, 0, 0, 0, 31, 300)", 31);
        steps.is("contest(0, 0, 0, 0, 60, 300)", 60).is("contest(0, 0, 0, 0, 61, 300)", 61);
        steps.is("contest(0, 0, 0, 0, 25, 60)", 25).is("contest(0, 0, 0, 0, 40, 60)", 40);
    }
}
