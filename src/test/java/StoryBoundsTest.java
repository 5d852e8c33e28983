/** Promises 10 to 17: each sentence about stories and people that names a boundary case. */
public final class StoryBoundsTest {
    private StoryBoundsTest() {
    }

    public static void main(String[] args) {
        atFirst();
        whatItWas();
        triesToTheirEnds();
        nothingToNothing();
        allAreNothing();
        noneOfAll();
        partsOfLikeOnes();
        greatNumbers();
        sixteenPeople();
        rights();
        praises();
        pairs();
        noPairs();
        spans();
        nobody();
        Check.end();
    }

    /** STORIES by CHANCE and PRIOR, in their order; those not told have no PRIOR. */
    private static Run stories(int... chancesAndPriors) {
        Run run = Run.anew();
        for (int i = 0; i < 4; i++) {
            boolean isTold = 2 * i < chancesAndPriors.length;
            run.does("story(" + i + ", 0, " + (isTold ? chancesAndPriors[2 * i] : 10) + ")");
            run.does("story(" + i + ", 1, " + (isTold ? chancesAndPriors[2 * i + 1] : 0) + ")");
        }
        return run;
    }

    private static void atFirst() {
        Check.sentence(10, "CHANCE of 20 (0 .. 20; 10 at first)");
        for (int i = 0; i < 4; i++) {
            Run.anew().is("story(" + i + ", 0, 0)", 10);
        }
        Check.sentence(10, "PRIORS (0 .. 9; 1 at first)");
        for (int i = 0; i < 4; i++) {
            Run.anew().is("story(" + i + ", 1, 0)", 1);
        }
        Check.sentence(11, "TRIES, hidden from who throws");
        // None at first: any CHANCE is as good as another.
        Run.anew().does("story(0, 0, 0)", "story(1, 0, 20)").share("odds(0)", 1, 4).share("odds(1)", 1, 4);
        Check.sentence(15, "PRAISE (-99 .. 99; 0 at first)");
        Run.anew().is("praise(99)", 0);
    }

    private static void whatItWas() {
        Check.sentence(10, "CHANCE (0), PRIOR (1) of a STORY: what it was.");
        Run run = Run.anew();
        for (int i = 0; i < 4; i++) {
            run.is("story(" + i + ", 0, 20)", 10).is("story(" + i + ", 0, 0)", 20).is("story(" + i + ", 0, 20)", 0);
            run.is("story(" + i + ", 1, 9)", 1).is("story(" + i + ", 1, 0)", 9).is("story(" + i + ", 1, 9)", 0);
        }
        // 20 is no PRIOR, though a CHANCE; what was refused was not told.
        run.refused("story(3, 1, 10)", -2, Run.AS_BAD).refused("story(3, 1, 20)", -2, Run.AS_BAD);
        run.refused("story(3, 0, 21)", -2, Run.AS_BAD).refused("story(3, 0, -1)", -2, Run.AS_BAD);
        run.is("story(3, 0, 1)", 20).is("story(3, 1, 1)", 9);
        Check.sentence(15, "PRAISE: what it was. BAD: -100.");
        run.is("praise(-99)", 0).is("praise(99)", -99).refused("praise(100)", -100, Run.AS_BAD);
        run.refused("praise(-100)", -100, Run.AS_BAD).is("praise(0)", 99);
    }

    private static void triesToTheirEnds() {
        Check.sentence(11, "n of them (0 .. 30), k better");
        // 15 of 20 against 5 of 20: by 3 to 1 for each better one, the other way for each other one.
        Run run = stories(15, 1, 5, 1);
        run.is("tries(0, 0)", 1).share("odds(0)", 1, 2);
        run.is("tries(1, 1)", 1).share("odds(0)", 3, 4);
        run.is("tries(1, 0)", 1).share("odds(0)", 1, 4);
        run.is("tries(30, 15)", 1).share("odds(0)", 1, 2);
        run.is("tries(30, 16)", 1).share("odds(0)", 9, 10);
        run.is("tries(30, 14)", 1).share("odds(0)", 1, 10);
        // 3 to the 30 to 1.
        run.is("tries(30, 30)", 1).is("odds(1)", 1).is("sign(1)", 1).is("limb(0, 0)", 1).is("sign(2)", 2);
        run.is("limb(1, 0)", 205891132094650L % 1073741824).is("limb(1, 1)", 205891132094650L / 1073741824);
        Check.sentence(11, "TRIES: 1. BAD: k above n, too.");
        run.refused("tries(30, 31)", -2, Run.AS_BAD).refused("tries(31, 31)", -2, Run.AS_BAD);
        run.refused("tries(29, 30)", -2, Run.AS_BAD).refused("tries(0, 1)", -2, Run.AS_BAD);
        run.refused("tries(-1, -1)", -2, Run.AS_BAD).refused("tries(5, -1)", -2, Run.AS_BAD);
        run.is("tries(29, 29)", 1).is("tries(0, 0)", 1).is("tries(1, 1)", 1);
    }

    private static void nothingToNothing() {
        Check.sentence(12, "(0 to the 0 is 1)");
        // CHANCE 0, none better: 20 to the 3 against 10 to the 3.
        stories(0, 1, 10, 1).does("tries(3, 0)").share("odds(0)", 8, 9).share("odds(1)", 1, 9).is("parts()", 0);
        // CHANCE 20, all better.
        stories(10, 1, 20, 1).does("tries(3, 3)").share("odds(1)", 8, 9).is("parts()", 1);
        // No TRIES: both ways.
        stories(0, 1, 20, 3).does("tries(0, 0)").share("odds(0)", 1, 4).share("odds(1)", 3, 4).is("parts()", 1);
        // Once it is 0 to the 1.
        stories(0, 1, 10, 1).does("tries(3, 1)").share("odds(0)", 0, 1).share("odds(1)", 1, 1);
        stories(10, 1, 20, 1).does("tries(3, 2)").share("odds(1)", 0, 1).share("odds(0)", 1, 1);
        stories(0, 9, 10, 1).does("tries(30, 0)").is("odds(0)", 1).is("sign(0)", 1);
    }

    private static void allAreNothing() {
        Check.sentence(12, "by that of all (NO: all are 0)");
        for (int i = 0; i < 4; i++) {
            // No PRIOR at all; no CHANCE for one better; no other CHANCE for one not better.
            stories().refused("odds(" + i + ")", -3, Run.AS_NO);
            stories(0, 9, 0, 9, 0, 9, 0, 9).does("tries(30, 1)").refused("odds(" + i + ")", -3, Run.AS_NO);
            stories(20, 9, 20, 9, 20, 9, 20, 9).does("tries(30, 29)").refused("odds(" + i + ")", -3, Run.AS_NO);
            stories(0, 9, 20, 9, 10, 0, 5, 0).does("tries(2, 1)").refused("odds(" + i + ")", -3, Run.AS_NO);
        }
        Check.sentence(13, "PARTS. NO.");
        stories().refused("parts()", -3, Run.AS_NO);
        stories(0, 9, 0, 9, 0, 9, 0, 9).does("tries(1, 1)").refused("parts()", -3, Run.AS_NO).does("tries(1, 0)")
                .is("parts()", 0);
        stories(20, 9, 20, 9, 20, 9, 20, 9).does("tries(1, 0)").refused("parts()", -3, Run.AS_NO).does("tries(1, 1)")
                .is("parts()", 0);
        Check.sentence(12, "ODDS is THE FRACTION: 1. BAD; NO.");
        // A wrong STORY is BAD ahead of NO; THE FRACTION stays as it was.
        Run run = stories(10, 1, 10, 2).share("odds(1)", 2, 3).does("story(0, 1, 0)", "story(1, 1, 0)");
        run.refused("odds(4)", -2, Run.AS_BAD).refused("odds(-1)", -2, Run.AS_BAD).refused("odds(0)", -3, Run.AS_NO);
        run.fraction(2, 3);
    }

    private static void noneOfAll() {
        Check.sentence(12, "PRIOR times CHANCE to the k times (20 less it) to the (n less k)");
        // One alone has all of it, the others nothing: 1 by 1, 0 by 1.
        for (int one = 0; one < 4; one++) {
            Run run = stories().does("story(" + one + ", 1, 9)", "tries(30, 7)");
            for (int i = 0; i < 4; i++) {
                run.share("odds(" + i + ")", i == one ? 1 : 0, 1);
            }
            run.is("parts()", one);
        }
        // The least that there may be is more than nothing, too.
        stories(10, 0, 10, 0, 10, 0, 10, 1).is("parts()", 3).share("odds(3)", 1, 1).share("odds(0)", 0, 1);
        stories(10, 0, 19, 1).does("tries(30, 0)").is("parts()", 1).share("odds(1)", 1, 1);
        stories(10, 1, 10, 9).share("odds(0)", 1, 10).share("odds(1)", 9, 10).share("odds(2)", 0, 1);
        stories(19, 1, 1, 1).does("tries(1, 1)").share("odds(0)", 19, 20).share("odds(1)", 1, 20);
    }

    private static void partsOfLikeOnes() {
        Check.sentence(13, "PARTS: the STORY with the most; of like ones the least.");
        Run.anew().is("parts()", 0);
        stories(10, 0, 10, 5, 10, 5, 10, 5).is("parts()", 1);
        stories(10, 4, 10, 5, 10, 4, 10, 5).is("parts()", 1);
        stories(10, 4, 10, 4, 10, 4, 10, 5).is("parts()", 3);
        stories(10, 5, 10, 4, 10, 4, 10, 5).is("parts()", 0);
        // Like ones by unlike numbers: 2 times 2, 1 times 4, 4 times 1; then 8 times 1 below 1 times 9.
        stories(2, 2, 4, 1).does("tries(1, 1)").is("parts()", 0);
        stories(4, 1, 2, 2).does("tries(1, 1)").is("parts()", 0);
        stories(4, 1, 1, 4, 2, 2).does("tries(1, 1)").is("parts()", 0);
        stories(1, 8, 9, 1).does("tries(1, 1)").is("parts()", 1);
        // Great ones, of which one is nothing, or one the greatest by CHANCE or by PRIOR.
        stories(20, 1, 0, 1, 20, 2, 20, 2).does("tries(30, 30)").is("parts()", 2);
        stories(19, 9, 20, 1, 18, 9, 17, 9).does("tries(30, 30)").is("parts()", 0);
        stories(19, 1, 20, 1, 18, 9, 17, 9).does("tries(30, 30)").is("parts()", 1);
    }

    private static Run limbs(Run run, long[] above, long[] below) {
        run.is("sign(0)", 1).is("sign(1)", above.length).is("sign(2)", below.length);
        for (int i = 0; i < above.length; i++) {
            run.is("limb(0, " + i + ")", above[i]);
        }
        for (int i = 0; i < below.length; i++) {
            run.is("limb(1, " + i + ")", below[i]);
        }
        run.counted("limb(0, " + above.length + ")", -1).counted("limb(1, " + below.length + ")", -1);
        return run.counted("limb(0, " + Integer.MAX_VALUE + ")", -1).counted("limb(1, " + Integer.MAX_VALUE + ")", -1);
    }

    private static void greatNumbers() {
        Check.sentence(12, "Its limbs are digits to the base 1073741824, the lowest first.");
        // 4 times 16 to the 7 is the base itself; against 1.
        Run base = stories(4, 4, 19, 1).does("tries(7, 0)", "odds(0)");
        limbs(base, new long[] {0, 1}, new long[] {1, 1});
        limbs(base.does("odds(1)"), new long[] {1}, new long[] {1, 1});
        // 16 to the 15 is its square, 16 to the 30 the square of that.
        limbs(stories(4, 1, 19, 1).does("tries(15, 0)", "odds(0)"), new long[] {0, 0, 1}, new long[] {1, 0, 1});
        limbs(stories(4, 1, 19, 1).does("tries(30, 0)", "odds(1)"), new long[] {1}, new long[] {1, 0, 0, 0, 1});
        limbs(stories(4, 1, 19, 1).does("tries(30, 0)", "odds(0)"), new long[] {0, 0, 0, 0, 1}, new long[] {1, 0, 0, 0, 1});
        // 20 to the 30 and 19 to the 30.
        limbs(stories(20, 1, 19, 1).does("tries(30, 30)", "odds(0)"), new long[] {0, 0, 433305513, 852086020, 807},
                new long[] {751202137, 118673953, 679205913, 190459977, 981});
        Check.sentence(12, "lowest terms, below above 0");
        // 9 times 20, 8 times 19, 8 times 18, 7 times 17, each to the 30: below alike, or cut by 3.
        Run run = stories(20, 9, 19, 8, 18, 8, 17, 7).does("tries(30, 30)", "odds(1)");
        long[] third = {256784805, 17247991, 388791559, 468005958, 2991};
        long[] whole = {770354415, 51743973, 92632853, 330276051, 8974};
        limbs(run, new long[] {640907976, 949391629, 893461376, 75700777, 1387}, whole);
        limbs(run.does("odds(0)"), new long[] {0, 0, 226174715, 408774413, 2423}, third);
        limbs(run.does("odds(2)"), new long[] {0, 486881752, 881961627, 338743927, 91}, third);
        // One digit each, two together: 9 times 10 to the 8 and 13 to the 8.
        limbs(stories(10, 9, 13, 1).does("tries(8, 8)", "odds(0)"), new long[] {900000000}, new long[] {641988897, 1});
        // Like ones are halves, whatever CHANCE is.
        for (int chance = 1; chance < 20; chance++) {
            stories(chance, 7, chance, 7).does("tries(30, 30)").share("odds(1)", 1, 2).does("tries(30, 0)").share("odds(0)", 1, 2);
        }
        // The greatest of all: four times 9 times 20 to the 30.
        stories(20, 9, 20, 9, 20, 9, 20, 9).does("tries(30, 30)").share("odds(3)", 1, 4);
        stories(20, 9, 20, 8, 20, 7, 20, 6).does("tries(30, 30)").share("odds(0)", 3, 10).share("odds(2)", 7, 30);
        // A small one behind a great one leaves nothing of it.
        run.does("tries(0, 0)").share("odds(0)", 9, 32).counted("limb(0, 1)", -1).counted("limb(1, 1)", -1);
        run.does("tries(30, 30)", "odds(0)", "story(0, 1, 0)").share("odds(0)", 0, 1).counted("limb(0, 0)", -1);
    }

    private static void sixteenPeople() {
        Check.sentence(14, "PEOPLE 0 .. 15, as they come");
        Run run = Run.anew();
        for (int i = 0; i < 16; i++) {
            run.is("count(3)", i).is("person(" + i % 2 + ", " + 66 * i + ", " + (i == 15) + ")", i);
        }
        Check.sentence(14, "One of PEOPLE: the number. BAD; FULL: 16.");
        run.refused("person(0, 0, false)", -4, Run.AS_FULL).refused("person(1, 999, true)", -4, Run.AS_FULL);
        // A wrong one is BAD ahead of FULL.
        run.refused("person(2, 0, false)", -2, Run.AS_BAD).refused("person(0, 1000, false)", -2, Run.AS_BAD);
        run.refused("person(0, -1, true)", -2, Run.AS_BAD).is("count(3)", 16);
        run.is("span(1, 1)", 990).is("span(0, 0)", 0).is("span(0, 1)", 924).is("span(1, 0)", 66);
    }

    private static void rights() {
        Check.sentence(17, "RIGHT: how far, and PRAISE (-99 .. 99; 0 at first) for who is first there");
        for (int far : new int[] {0, 999}) {
            for (int praise : new int[] {-99, 0, 99}) {
                Run run = Run.anew().does("person(0, " + far + ", true)", "person(1, " + far + ", false)");
                run.call("praise(" + praise + ")");
                run.is("span(0, 0)", far + praise).is("span(0, 1)", far + praise).share("span(0, 2)", far + praise, 1);
                run.is("span(1, 0)", far).is("span(1, 1)", far).share("span(1, 2)", far, 1);
            }
        }
    }

    private static void praises() {
        Check.sentence(16, "PRAISE (-99 .. 99; 0 at first) for who is first there. PAIRS");
        // 99 more makes a like one of who is 99 nearer, 98 more does not, and the other way.
        Run run = Run.anew().does("person(0, 100, false)", "person(1, 1, true)").share("pairs()", 0, 1);
        run.does("praise(98)").share("pairs()", 0, 1).does("praise(99)").share("pairs()", 1, 2);
        Run other = Run.anew().does("person(0, 1, true)", "person(1, 99, true)", "person(1, 100, false)").share("pairs()", 1, 1);
        other.does("praise(99)").share("pairs()", 3, 4).does("praise(98)").is("pairs()", 1);
        other.fraction(1, 1);
        // For both alike it changes nothing.
        Run both = Run.anew().does("person(0, 5, true)", "person(1, 5, true)", "praise(99)").share("pairs()", 1, 2);
        both.call("praise(-99)");
        both.share("pairs()", 1, 2);
    }

    private static void pairs() {
        Check.sentence(16, "the share in which that of GROUP 1 throws further, like ones a half");
        for (int other : new int[] {49, 50, 51}) {
            Run.anew().does("person(1, " + other + ", false)", "person(0, 50, false)")
                    .share("pairs()", other == 49 ? 0 : 1, other == 50 ? 2 : 1);
        }
        Run.anew().does("person(0, 0, false)", "person(1, 999, false)").share("pairs()", 1, 1);
        Run.anew().does("person(0, 999, false)", "person(1, 0, false)").share("pairs()", 0, 1);
        // As many as there may be: 8 and 8, each further than those of a lower number; 1 and 15.
        Run run = Run.anew();
        Run one = Run.anew();
        Run fifteen = Run.anew();
        for (int i = 0; i < 16; i++) {
            run.does("person(" + i % 2 + ", " + 60 * i + ", false)");
            one.does("person(" + (i == 7 ? 0 : 1) + ", " + 60 * i + ", false)");
            fifteen.does("person(" + (i == 7 ? 1 : 0) + ", " + 60 * i + ", false)");
        }
        run.share("pairs()", 9, 16);
        one.share("pairs()", 8, 15);
        fifteen.share("pairs()", 7, 15);
    }

    private static void noPairs() {
        Check.sentence(16, "(NO: no PAIRS)");
        Run.anew().refused("pairs()", -3, Run.AS_NO);
        Run run = Run.anew();
        for (int i = 0; i < 16; i++) {
            run.does("person(0, 5, true)");
        }
        run.refused("pairs()", -3, Run.AS_NO).is("span(0, 1)", 5);
        Run.anew().does("person(1, 5, true)").refused("pairs()", -3, Run.AS_NO).does("person(0, 6, false)")
                .share("pairs()", 0, 1);
    }

    private static void spans() {
        Check.sentence(17, "SPAN of a GROUP: the least, the greatest, the mean RIGHT");
        Run run = Run.anew().does("person(0, 7, false)").is("span(0, 0)", 7).is("span(0, 1)", 7).share("span(0, 2)", 7, 1);
        run.does("person(0, 8, false)").is("span(0, 0)", 7).is("span(0, 1)", 8).share("span(0, 2)", 15, 2);
        run.does("person(0, 0, true)").is("span(0, 0)", 0).share("span(0, 2)", 5, 1);
        // Below 0 the mean has a sign and lowest terms, too: -99 and 15 by 3; -15 and 15; -16 and 15.
        run.does("praise(0)").call("praise(-99)");
        run.is("span(0, 0)", -99).is("span(0, 1)", 8).share("span(0, 2)", -28, 1);
        run.call("praise(-15)");
        run.share("span(0, 2)", 0, 1).is("span(0, 0)", -15);
        run.call("praise(-16)");
        run.share("span(0, 2)", -1, 3);
        // All 16 as far as can be.
        Run far = Run.anew().does("praise(99)");
        for (int i = 0; i < 16; i++) {
            far.does("person(1, " + (i == 0 ? 998 : 999) + ", true)");
        }
        far.is("span(1, 0)", 1097).is("span(1, 1)", 1098).share("span(1, 2)", 16 * 1098 - 1, 16);
        // The GROUP that nobody is of stays so.
        far.refused("span(0, 0)", -2000, Run.AS_NO);
    }

    private static void nobody() {
        Check.sentence(17, "BAD: -1000; NO: -2000.");
        Run run = Run.anew();
        for (int group = 0; group < 2; group++) {
            for (int what = 0; what < 3; what++) {
                run.refused("span(" + group + ", " + what + ")", -2000, Run.AS_NO);
            }
        }
        // A wrong number is BAD ahead of NO.
        run.refused("span(2, 0)", -1000, Run.AS_BAD).refused("span(-1, 0)", -1000, Run.AS_BAD);
        run.refused("span(0, 3)", -1000, Run.AS_BAD).refused("span(0, -1)", -1000, Run.AS_BAD);
        run.does("person(1, 0, false)").refused("span(0, 2)", -2000, Run.AS_NO).is("span(1, 0)", 0);
    }
}
