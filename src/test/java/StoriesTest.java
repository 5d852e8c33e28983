import java.math.BigInteger;

/** Promises 10 to 17: stories and their odds; people, pairs and spans. */
public final class StoriesTest {
    private StoriesTest() {
    }

    public static void main(String[] args) {
        story();
        tries();
        odds();
        nothingToNothing();
        likeOdds();
        greatOdds();
        oddsRefused();
        parts();
        person();
        praise();
        pairs();
        span();
        Check.end();
    }

    private static void story() {
        ThrowHook x = new ThrowHook();
        for (int i = 0; i < 4; i++) {
            Check.due(10, "CHANCE, at first", x.story(i, 0, 20), 10);
            Check.due(10, "CHANCE", x.story(i, 0, i), 20);
            Check.due(10, "PRIOR, at first", x.story(i, 1, 9), 1);
            Check.due(10, "PRIOR", x.story(i, 1, 0), 9);
            Check.due(10, "PRIOR", x.story(i, 1, 5), 0);
        }
        int[][] wrong = {{-1, 0, 5}, {4, 0, 5}, {0, -1, 5}, {0, 2, 5}, {0, 0, -1}, {0, 0, 21}, {0, 1, -1}, {0, 1, 10},
            {Integer.MAX_VALUE, 0, 5}, {0, Integer.MIN_VALUE, 5}, {0, 0, Integer.MAX_VALUE}};
        for (int[] v : wrong) {
            Check.due(10, "story, wrong", x.story(v[0], v[1], v[2]), -2);
        }
        for (int i = 0; i < 4; i++) {
            Check.due(10, "CHANCE, kept", x.story(i, 0, 10), i);
            Check.due(10, "PRIOR, kept", x.story(i, 1, 1), 5);
        }
        Check.status("story", x, wrong.length, 0, 0);
    }

    private static void tries() {
        ThrowHook x = new ThrowHook();
        int[][] good = {{0, 0}, {30, 0}, {30, 30}, {7, 3}};
        for (int[] v : good) {
            Check.due(11, "tries", x.tries(v[0], v[1]), 1);
        }
        int[][] wrong = {{-1, 0}, {31, 0}, {31, 31}, {5, 6}, {5, -1}, {0, 1}, {Integer.MIN_VALUE, 0},
            {-1, -1}, {5, Integer.MAX_VALUE}};
        long before = x.digest();
        for (int[] v : wrong) {
            Check.due(11, "tries, wrong", x.tries(v[0], v[1]), -2);
        }
        Check.due(11, "digest", x.digest(), before);
        Check.status("tries", x, wrong.length, 0, 0);
    }

    private static void odds() {
        ThrowHook x = new ThrowHook();
        for (int i = 0; i < 4; i++) {
            Check.due(12, "odds", x.odds(i), 1);
            Check.fraction(12, "odds at first", x, 1, 4);
        }
        // Weights 15 times 5, three times 10 times 10.
        x.tries(2, 1);
        x.story(0, 0, 15);
        Check.due(12, "odds", x.odds(0), 1);
        Check.fraction(12, "odds", x, 1, 5);
        Check.due(12, "odds", x.odds(3), 1);
        Check.fraction(12, "odds", x, 4, 15);
        x.story(0, 1, 4);
        Check.due(12, "odds", x.odds(0), 1);
        Check.fraction(12, "odds by a PRIOR", x, 1, 2);
        // k counts what was better: 15 times 15 by 4, against 100 each.
        x.tries(2, 2);
        Check.due(12, "odds", x.odds(0), 1);
        Check.fraction(12, "odds, all better", x, 3, 4);
        x.tries(2, 0);
        Check.due(12, "odds", x.odds(0), 1);
        Check.fraction(12, "odds, none better", x, 1, 4);
        // One alone is sure, the others are not.
        x.story(1, 1, 0);
        x.story(2, 1, 0);
        x.story(3, 1, 0);
        Check.due(12, "odds", x.odds(0), 1);
        Check.fraction(12, "odds of one alone", x, 1, 1);
        Check.due(12, "odds", x.odds(1), 1);
        Check.fraction(12, "odds of none", x, 0, 1);
        Check.status("odds", x, 0, 0, 0);
    }

    /** 0 to the 0 is 1. */
    private static void nothingToNothing() {
        ThrowHook x = new ThrowHook();
        x.story(0, 0, 0);
        x.story(1, 0, 20);
        x.tries(3, 0);
        Check.due(12, "odds", x.odds(0), 1);
        Check.fraction(12, "CHANCE 0, none better", x, 4, 5);
        Check.due(12, "odds", x.odds(1), 1);
        Check.fraction(12, "CHANCE 20, none better", x, 0, 1);
        x.tries(3, 3);
        Check.due(12, "odds", x.odds(0), 1);
        Check.fraction(12, "CHANCE 0, all better", x, 0, 1);
        Check.due(12, "odds", x.odds(1), 1);
        Check.fraction(12, "CHANCE 20, all better", x, 4, 5);
        x.tries(3, 2);
        Check.due(12, "odds", x.odds(1), 1);
        Check.fraction(12, "CHANCE 20, two better", x, 0, 1);
    }

    /** Like CHANCES cancel, whatever they are; four weights together may have a digit more than each. */
    private static void likeOdds() {
        for (int chance = 1; chance < 20; chance++) {
            ThrowHook x = new ThrowHook();
            for (int i = 0; i < 4; i++) {
                x.story(i, 0, chance);
            }
            for (int n = 0; n <= 30; n += 3) {
                x.tries(n, n / 2);
                Check.due(12, "odds", x.odds(n % 4), 1);
                Check.fraction(12, "like ones of " + chance + ", " + n, x, 1, 4);
            }
        }
    }

    private static BigInteger weight(int prior, int chance, int n, int k) {
        return BigInteger.valueOf(chance).pow(k).multiply(BigInteger.valueOf(20 - chance).pow(n - k))
                .multiply(BigInteger.valueOf(prior));
    }

    private static void greatOdds() {
        int[][] chances = {{11, 13, 17, 19}, {20, 20, 20, 20}, {20, 19, 18, 17}, {1, 3, 7, 9}, {10, 9, 8, 7},
            {15, 5, 20, 0}, {19, 1, 10, 10}};
        int[][] priors = {{9, 8, 7, 5}, {9, 9, 9, 9}, {9, 9, 9, 9}, {1, 2, 3, 4}, {9, 0, 7, 1}, {1, 1, 1, 1}, {9, 1, 1, 1}};
        for (int i = 0; i < chances.length; i++) {
            for (int k = 0; k <= 30; k += 5) {
                great(chances[i], priors[i], 30, k);
            }
        }
    }

    private static void great(int[] chances, int[] priors, int n, int k) {
        ThrowHook x = new ThrowHook();
        x.tries(n, k);
        BigInteger all = BigInteger.ZERO;
        BigInteger most = BigInteger.ZERO;
        int heaviest = 0;
        for (int i = 0; i < 4; i++) {
            x.story(i, 0, chances[i]);
            x.story(i, 1, priors[i]);
            BigInteger one = weight(priors[i], chances[i], n, k);
            all = all.add(one);
            if (one.compareTo(most) > 0) {
                most = one;
                heaviest = i;
            }
        }
        if (all.signum() == 0) {
            Check.due(13, "parts", x.parts(), -3);
            return;
        }
        Check.due(13, "parts", x.parts(), heaviest);
        for (int i = 0; i < 4; i++) {
            BigInteger one = weight(priors[i], chances[i], n, k);
            BigInteger common = one.gcd(all);
            Check.due(12, "odds", x.odds(i), 1);
            Check.due(34, "sign(0)", x.sign(0), one.signum());
            Check.due(34, "sign(1)", x.sign(1), limbs(35, x, 0, one.divide(common)));
            Check.due(34, "sign(2)", x.sign(2), limbs(35, x, 1, all.divide(common)));
        }
    }

    private static int limbs(int promise, ThrowHook x, int which, BigInteger number) {
        int i = 0;
        for (BigInteger left = number; left.signum() > 0; left = left.shiftRight(30)) {
            Check.due(promise, "limb", x.limb(which, i), left.mod(BigInteger.ONE.shiftLeft(30)).longValueExact());
            i++;
        }
        Check.due(promise, "limb beyond", x.limb(which, i), -1);
        return i;
    }

    private static void oddsRefused() {
        ThrowHook x = new ThrowHook();
        x.odds(0);
        for (int v : new int[] {-1, 4, Integer.MIN_VALUE, Integer.MAX_VALUE}) {
            Check.due(12, "odds, wrong", x.odds(v), -2);
        }
        for (int i = 0; i < 4; i++) {
            x.story(i, 1, 0);
        }
        Check.due(12, "odds, all 0", x.odds(0), -3);
        Check.due(12, "odds, all 0, wrong", x.odds(4), -2);
        Check.due(13, "parts, all 0", x.parts(), -3);
        for (int i = 0; i < 4; i++) {
            x.story(i, 1, 1);
            x.story(i, 0, 0);
        }
        x.tries(1, 1);
        Check.due(12, "odds, no CHANCE", x.odds(0), -3);
        Check.due(13, "parts, no CHANCE", x.parts(), -3);
        Check.fraction(12, "what was refused leaves THE FRACTION", x, 1, 4);
        Check.status("odds", x, 5, 4, 0);
    }

    private static void parts() {
        ThrowHook x = new ThrowHook();
        Check.due(13, "parts, like ones", x.parts(), 0);
        x.tries(3, 2);
        x.story(3, 0, 13);
        Check.due(13, "parts, the last", x.parts(), 3);
        x.story(2, 0, 13);
        Check.due(13, "parts, two like ones", x.parts(), 2);
        x.story(1, 1, 2);
        Check.due(13, "parts, by PRIOR", x.parts(), 1);
        x.story(0, 0, 0);
        x.story(1, 1, 0);
        x.story(2, 1, 0);
        x.story(3, 1, 0);
        Check.due(13, "parts, none", x.parts(), -3);
        x.story(3, 1, 1);
        Check.due(13, "parts, one alone", x.parts(), 3);
        Check.status("parts", x, 0, 1, 0);
    }

    private static void person() {
        ThrowHook x = new ThrowHook();
        int[][] wrong = {{-1, 5}, {2, 5}, {0, -1}, {0, 1000}, {Integer.MIN_VALUE, 5}, {1, Integer.MAX_VALUE}};
        for (int[] v : wrong) {
            Check.due(14, "person, wrong", x.person(v[0], v[1], true), -2);
        }
        for (int i = 0; i < 16; i++) {
            Check.due(14, "person", x.person(i % 2, i % 3 == 0 ? 0 : 999, i % 5 == 0), i);
        }
        Check.due(14, "person, a seventeenth", x.person(0, 0, false), -4);
        Check.due(14, "person, a seventeenth, wrong", x.person(0, 1000, false), -2);
        Check.due(14, "count(3)", x.count(3), 16);
        Check.status("person", x, wrong.length + 1, 0, 1);
    }

    private static void praise() {
        ThrowHook x = new ThrowHook();
        Check.due(15, "praise", x.praise(99), 0);
        Check.due(15, "praise", x.praise(-99), 99);
        for (int v : new int[] {-100, 100, Integer.MIN_VALUE, Integer.MAX_VALUE}) {
            Check.due(15, "praise, wrong", x.praise(v), -100);
        }
        Check.due(15, "praise", x.praise(0), -99);
        Check.status("praise", x, 4, 0, 0);
    }

    private static void pairs() {
        ThrowHook x = new ThrowHook();
        Check.due(16, "pairs of nobody", x.pairs(), -3);
        x.person(1, 50, true);
        Check.due(16, "pairs of GROUP 1 alone", x.pairs(), -3);
        ThrowHook other = new ThrowHook();
        other.person(0, 50, true);
        Check.due(16, "pairs of GROUP 0 alone", other.pairs(), -3);
        Check.status("pairs", x, 0, 2, 0);

        x.person(0, 50, false);
        Check.due(16, "pairs", x.pairs(), 1);
        Check.fraction(16, "a like pair", x, 1, 2);
        x.praise(1);
        Check.due(16, "pairs", x.pairs(), 1);
        Check.fraction(16, "a praised one further", x, 1, 1);
        x.praise(-1);
        Check.due(16, "pairs", x.pairs(), 1);
        Check.fraction(16, "a praised one nearer", x, 0, 1);
        // GROUP 0: 50, 60; GROUP 1: 49, 60, 70: (0, 1, 1) and (0, a half, 1).
        x.person(0, 60, false);
        x.person(1, 60, false);
        x.person(1, 70, false);
        Check.due(16, "pairs", x.pairs(), 1);
        Check.fraction(16, "six pairs", x, 7, 12);
    }

    private static void span() {
        ThrowHook x = new ThrowHook();
        for (int what = 0; what < 3; what++) {
            Check.due(17, "span of nobody", x.span(0, what), -2000);
        }
        x.person(1, 30, true);
        x.person(1, 20, false);
        x.person(1, 45, false);
        Check.due(17, "span of GROUP 0", x.span(0, 2), -2000);
        Check.fraction(17, "refused", x, 0, 1);
        Check.due(17, "span, least", x.span(1, 0), 20);
        Check.due(17, "span, greatest", x.span(1, 1), 45);
        Check.due(17, "span, mean", x.span(1, 2), 1);
        Check.fraction(17, "the mean", x, 95, 3);
        x.praise(99);
        Check.due(17, "span, least", x.span(1, 0), 20);
        Check.due(17, "span, greatest", x.span(1, 1), 129);
        x.praise(-99);
        Check.due(17, "span, least", x.span(1, 0), -69);
        Check.due(17, "span, mean", x.span(1, 2), 1);
        Check.fraction(17, "a mean below 0", x, -4, 3);
        x.person(0, 99, true);
        Check.due(17, "span, greatest", x.span(0, 1), 0);
        Check.due(17, "span, mean", x.span(0, 2), 1);
        Check.fraction(17, "a mean of 0", x, 0, 1);
        x.person(0, 0, true);
        Check.due(17, "span, least", x.span(0, 0), -99);
        int[][] wrong = {{-1, 0}, {2, 0}, {0, -1}, {0, 3}, {Integer.MAX_VALUE, 0}, {0, Integer.MIN_VALUE}};
        for (int[] v : wrong) {
            Check.due(17, "span, wrong", x.span(v[0], v[1]), -1000);
        }
        Check.status("span", x, wrong.length, 4, 0);
    }
}
