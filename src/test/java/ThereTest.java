import java.util.ArrayList;
import java.util.List;

/** Promises 34 to 40: the fraction, images, STATUS, counts and the digest. */
public final class ThereTest {
    private ThereTest() {
    }

    public static void main(String[] args) {
        signsAndLimbs();
        images();
        imageOfAll();
        whatImagesLeave();
        imagesRefused();
        status();
        count();
        digest();
        fullDigest();
        Check.end();
    }

    private static void signsAndLimbs() {
        ThrowHook x = new ThrowHook();
        for (int v : new int[] {-1, 3, Integer.MIN_VALUE, Integer.MAX_VALUE}) {
            Check.due(34, "sign, wrong", x.sign(v), -2);
        }
        int[][] wrong = {{-1, 0}, {2, 0}, {0, -1}, {1, -1}, {1, Integer.MIN_VALUE}, {Integer.MAX_VALUE, 0}};
        for (int[] v : wrong) {
            Check.due(35, "limb, wrong", x.limb(v[0], v[1]), -2);
        }
        Check.due(35, "limb, far beyond", x.limb(1, Integer.MAX_VALUE), -1);
        Check.due(35, "limb, far beyond", x.limb(0, Integer.MAX_VALUE), -1);
        Check.status("sign, limb", x, 4 + wrong.length, 0, 0);
        x.praise(-99);
        x.person(0, 0, true);
        x.person(0, 0, false);
        x.span(0, 2);
        Check.due(34, "sign(0), below 0", x.sign(0), -1);
        Check.fraction(34, "below 0", x, -99, 2);
        // 4 to the 30 by itself, 2 to the 30 and 2: 2 to the 59 by as much, 2 to the 29 and 1.
        ThrowHook y = new ThrowHook();
        y.tries(30, 30);
        y.story(0, 0, 20);
        y.story(1, 0, 10);
        y.story(2, 0, 5);
        y.story(3, 0, 5);
        Check.due(12, "odds", y.odds(0), 1);
        long[] above = {0, 1 << 29, -1};
        long[] below = {(1 << 29) + 1, 1 << 29, -1};
        for (int i = 0; i < 3; i++) {
            Check.due(35, "limb(0, " + i + ")", y.limb(0, i), above[i]);
            Check.due(35, "limb(1, " + i + ")", y.limb(1, i), below[i]);
        }
        Check.due(34, "sign(1)", y.sign(1), 2);
        Check.due(34, "sign(2)", y.sign(2), 2);
    }

    private static void images() {
        ThrowHook x = new ThrowHook();
        Check.due(36, "image(0)", x.image(0), 1);
        x.arm(50, 50, 5);
        long one = x.digest();
        Check.due(36, "image(1)", x.image(1), 1);
        x.arm(60, 60, 6);
        x.type('a', 1);
        long two = x.digest();
        Check.due(37, "from(1)", x.from(1), 1);
        Check.due(37, "digest", x.digest(), one);
        Check.due(37, "an ARM again", x.arm(60, 60, 6), 1);
        x.type('a', 1);
        Check.due(37, "digest", x.digest(), two);
        Check.due(37, "from(0)", x.from(0), 1);
        Check.due(37, "count(0)", x.count(0), 0);
        // An IMAGE stays as it was kept, and is kept anew in its place.
        Check.due(37, "from(1)", x.from(1), 1);
        Check.due(37, "digest", x.digest(), one);
        x.arm(60, 60, 6);
        x.type('a', 1);
        Check.due(36, "image(1)", x.image(1), 1);
        x.from(0);
        x.from(1);
        Check.due(36, "digest", x.digest(), two);
        Check.status("images", x, 0, 0, 0);
    }

    private static void tellAll(ThrowHook x) {
        x.arm(21, 2, 3);
        x.hook(31, 32, 30);
        x.dart(41, 42, 43, 4);
        for (int i = 0; i < 4; i++) {
            x.story(i, 0, 11 + i);
            x.story(i, 1, 5 + i);
        }
        x.tries(9, 4);
        x.person(1, 77, true);
        x.person(0, 78, false);
        x.praise(-7);
        x.thorn(51, 2, 13, 1);
        x.butt(14);
        x.play(6);
        for (int i = 0; i < 3; i++) {
            x.prior(i, 7 - i);
            for (int band = 0; band < 6; band++) {
                x.known(i, band, 20 + 6 * i + band);
            }
        }
        for (int i = 0; i < 8; i++) {
            x.layer(i, 0, 60 + i);
            x.layer(i, 1, 80 + i);
        }
        x.type(0x61FF62L, 3);
    }

    private static final long[] ALL = {
        1, 1, 1, 2, 1, 1, 3,
        21, 2, 3,
        31, 32, 30,
        41, 42, 43, 4,
        11, 5, 12, 6, 13, 7, 14, 8,
        9, 4,
        1, 77, 1, 0, 78, 0,
        -7,
        51, 2, 13, 1,
        14,
        6,
        7, 20, 21, 22, 23, 24, 25, 6, 26, 27, 28, 29, 30, 31, 5, 32, 33, 34, 35, 36, 37,
        60, 80, 61, 81, 62, 82, 63, 83, 64, 84, 65, 85, 66, 86, 67, 87,
        0x61, 0xFF, 0x62};

    /** Each part of what is told comes back. */
    private static void imageOfAll() {
        ThrowHook x = new ThrowHook();
        x.image(0);
        long first = x.digest();
        tellAll(x);
        x.image(1);
        long all = x.digest();
        x.from(0);
        Check.due(37, "nothing told again", x.digest(), first);
        Check.due(37, "clear()", x.clear(), 0);
        x.from(1);
        Check.due(37, "all told again", x.digest(), all);
        Check.due(37, "digest", x.digest(), Check.digestOf(ALL, Check.NO_FRACTION));
        x.from(0);
        x.from(1);
        Check.due(37, "PRIOR", x.prior(2, 0), 5);
        Check.due(37, "known", x.known(2, 5, 0), 37);
        Check.due(37, "arrows", x.layer(7, 0, 0), 67);
        Check.due(37, "span", x.span(1, 0), 70);
        Check.due(37, "fling", x.fling(0, 0, 0, 0, 0, 0, 5), 5);
    }

    /** THE FRACTION, STATUS and the other IMAGE stay. */
    private static void whatImagesLeave() {
        ThrowHook x = new ThrowHook();
        x.image(0);
        x.butt(9);
        x.image(1);
        x.odds(0);
        x.arm(0, 0, 0);
        x.from(0);
        Check.fraction(37, "THE FRACTION stays", x, 1, 4);
        Check.status("from", x, 1, 0, 0);
        Check.due(37, "count(5)", x.count(5), 0);
        Check.due(37, "from(1)", x.from(1), 1);
        Check.due(37, "count(5)", x.count(5), 1);
        Check.due(37, "from(0)", x.from(0), 1);
        Check.due(37, "count(5)", x.count(5), 0);
    }

    private static void imagesRefused() {
        ThrowHook x = new ThrowHook();
        x.butt(9);
        for (int v : new int[] {-1, 2, Integer.MIN_VALUE, Integer.MAX_VALUE}) {
            Check.due(36, "image, wrong", x.image(v), -2);
            Check.due(37, "from, wrong", x.from(v), -2);
        }
        Check.due(37, "from(0), none", x.from(0), -3);
        x.image(1);
        Check.due(37, "from(0), none", x.from(0), -3);
        x.image(0);
        Check.due(37, "from(0)", x.from(0), 1);
        Check.due(37, "count(5)", x.count(5), 1);
        Check.status("images", x, 8, 2, 0);
    }

    private static void status() {
        ThrowHook x = new ThrowHook();
        Check.status("at first", x, 0, 0, 0);
        for (int v : new int[] {-1, 3, Integer.MIN_VALUE, Integer.MAX_VALUE}) {
            Check.due(38, "status, wrong", x.status(v), -1);
        }
        Check.status("a wrong what is BAD", x, 4, 0, 0);
        // Answers of other numbers count as they are named.
        x.fling(0, 0, 0, 0, 0, 0, 0);
        x.praise(100);
        x.span(2, 0);
        x.plan(-2);
        Check.status("BAD", x, 8, 0, 0);
        x.span(0, 0);
        x.type('!', 1);
        x.plan(0);
        Check.status("NO", x, 8, 2, 0);
        for (int i = 0; i < 7; i++) {
            x.butt(1);
        }
        Check.status("FULL", x, 8, 2, 1);
        // What is no refusal counts nowhere.
        x.clear();
        Check.due(38, "plan(0)", x.plan(0), -5);
        Check.due(38, "kinds(0)", x.kinds(0), -1);
        Check.due(38, "limb(0, 0)", x.limb(0, 0), -1);
        Check.due(38, "fault()", x.fault(), -1);
        Check.status("no refusal", x, 8, 2, 1);
    }

    private static void count() {
        ThrowHook x = new ThrowHook();
        tellAll(x);
        for (int i = 0; i < 7; i++) {
            Check.due(39, "count(" + i + ")", x.count(i), ALL[i]);
        }
        for (int v : new int[] {-1, 7, Integer.MIN_VALUE, Integer.MAX_VALUE}) {
            Check.due(39, "count, wrong", x.count(v), -2);
        }
        Check.status("count", x, 4, 0, 0);
    }

    private static void digest() {
        ThrowHook x = new ThrowHook();
        long[] none = {0, 0, 0, 0, 0, 0, 0};
        Check.due(40, "digest, new", x.digest(), Check.digestOf(none, Check.UNTOLD, Check.NO_FRACTION));
        x.status(0);
        x.arm(0, 0, 0);
        x.image(0);
        x.fault();
        Check.due(40, "digest, still", x.digest(), Check.digestOf(none, Check.UNTOLD, Check.NO_FRACTION));
        x.odds(0);
        Check.due(40, "digest, a fraction", x.digest(), Check.digestOf(none, Check.UNTOLD, new long[] {1, 1, 1, 1, 4}));
        tellAll(x);
        x.span(1, 2);
        Check.due(40, "digest, all told", x.digest(), Check.digestOf(ALL, new long[] {1, 1, 1, 70, 1}));
        // A fraction below 0 has its sign once.
        ThrowHook y = new ThrowHook();
        y.praise(-3);
        y.person(1, 1, true);
        y.span(1, 2);
        long[] untold = Check.UNTOLD.clone();
        long[] withPeople = new long[untold.length + 3];
        System.arraycopy(untold, 0, withPeople, 0, 10);
        withPeople[10] = 1;
        withPeople[11] = 1;
        withPeople[12] = 1;
        System.arraycopy(untold, 10, withPeople, 13, untold.length - 10);
        withPeople[13] = -3;
        Check.due(40, "digest, below 0", y.digest(),
                Check.digestOf(new long[] {0, 0, 0, 1, 0, 0, 0}, withPeople, new long[] {-1, 1, 1, 2, 1}));
    }

    /** The fullest object. */
    private static void fullDigest() {
        ThrowHook x = new ThrowHook();
        for (int i = 0; i < 4; i++) {
            x.arm(20 + i, 1 + i, i);
            x.hook(50 + i, i, 40 + i);
            x.dart(20 + i, 1 + i, i, 2 * i);
        }
        for (int i = 0; i < 16; i++) {
            x.person(i % 2, 100 * (i % 9), i % 3 == 0);
        }
        for (int i = 0; i < 12; i++) {
            x.thorn(1 + 8 * i, i % 4, 1 + i, i % 2);
        }
        for (int i = 0; i < 6; i++) {
            x.butt(30 - i);
        }
        for (int i = 0; i < 25; i++) {
            x.type(0x0102030405060708L * (i + 1), 8);
        }
        List<Long> v = new ArrayList<>(List.of(4L, 4L, 4L, 16L, 12L, 6L, 200L));
        add(v, 20, 1, 0, 21, 2, 1, 22, 3, 2, 23, 4, 3);
        add(v, 50, 0, 40, 51, 1, 41, 52, 2, 42, 53, 3, 43);
        add(v, 20, 1, 0, 0, 21, 2, 1, 2, 22, 3, 2, 4, 23, 4, 3, 6);
        add(v, 10, 1, 10, 1, 10, 1, 10, 1, 0, 0);
        for (int i = 0; i < 16; i++) {
            add(v, i % 2, 100 * (i % 9), i % 3 == 0 ? 1 : 0);
        }
        add(v, 0);
        for (int i = 0; i < 12; i++) {
            add(v, 1 + 8 * i, i % 4, 1 + i, i % 2);
        }
        add(v, 30, 29, 28, 27, 26, 25);
        for (int i = 11; i < Check.UNTOLD.length; i++) {
            add(v, Check.UNTOLD[i]);
        }
        for (int i = 0; i < 25; i++) {
            for (int shift = 56; shift >= 0; shift -= 8) {
                add(v, (0x0102030405060708L * (i + 1) >>> shift) & 255);
            }
        }
        add(v, Check.NO_FRACTION);
        Check.due(40, "digest, full", x.digest(), Check.digestOf(v.stream().mapToLong(one -> one).toArray()));
    }

    private static void add(List<Long> v, long... more) {
        for (long one : more) {
            v.add(one);
        }
    }
}
