import java.io.IOException;
import java.nio.file.Files;
import java.nio.file.Path;
import java.util.ArrayList;
import java.util.List;

/** Compares answers with what is due, and ends a test. */
final class Check {
    private static final Path DOCUMENT = Path.of("../shared/DOC.md");

    /** What digest tells of a new object between the counts and the bytes of THE PLAN. */
    static final long[] UNTOLD = {
        10, 1, 10, 1, 10, 1, 10, 1,
        0, 0,
        0,
        1,
        1, 0, 0, 0, 0, 0, 0, 1, 0, 0, 0, 0, 0, 0, 1, 0, 0, 0, 0, 0, 0,
        0, 0, 0, 0, 0, 0, 0, 0, 0, 0, 0, 0, 0, 0, 0, 0};
    /** What it tells of THE FRACTION at first. */
    static final long[] NO_FRACTION = {0, 0, 1, 1};

    private static int checks = 0;
    private static int wrong = 0;
    private static final List<String> sentences = new ArrayList<>();
    private static int promise = 0;

    private Check() {
    }

    /** From here on a test of words that stand in the document; what is wrong is told with them. */
    static void sentence(int promised, String words) {
        promise = promised;
        sentences.add(words);
    }

    /** The promise of the sentence told last. */
    static int promise() {
        return promise;
    }

    private static String told() {
        return sentences.isEmpty() ? "" : " (" + sentences.get(sentences.size() - 1) + ")";
    }

    static void due(int promised, String call, long got, long want) {
        checks++;
        if (got != want) {
            wrong++;
            if (wrong <= 50) {
                System.out.println("promise " + promised + told() + ": " + call + " answered " + got + ", due is " + want);
            }
        }
    }

    static void isTrue(String what, boolean holds) {
        checks++;
        if (!holds) {
            wrong++;
            System.out.println("does not hold" + told() + ": " + what);
        }
    }

    /** THE FRACTION, where it has one limb at most above and below. */
    static void fraction(int promise, String call, ThrowHook x, long above, long below) {
        due(promise, call + ": sign(0)", x.sign(0), Long.signum(above));
        due(promise, call + ": sign(1)", x.sign(1), above == 0 ? 0 : 1);
        due(promise, call + ": sign(2)", x.sign(2), 1);
        due(promise, call + ": limb(0, 0)", x.limb(0, 0), above == 0 ? -1 : Math.abs(above));
        due(promise, call + ": limb(1, 0)", x.limb(1, 0), below);
        due(promise, call + ": limb(0, 1)", x.limb(0, 1), -1);
        due(promise, call + ": limb(1, 1)", x.limb(1, 1), -1);
    }

    /** STATUS as it is due: BAD, NO, FULL. */
    static void status(String where, ThrowHook x, int bad, int no, int full) {
        due(38, where + ": status(0)", x.status(0), bad);
        due(38, where + ": status(1)", x.status(1), no);
        due(38, where + ": status(2)", x.status(2), full);
    }

    /** Types a text of characters 0 to 255, in pieces of eight: what the last call answered. */
    static int type(ThrowHook x, String text) {
        int had = 0;
        for (int at = 0; at < text.length(); at += 8) {
            int n = Math.min(8, text.length() - at);
            long v = 0;
            for (int i = 0; i < n; i++) {
                v = v << 8 | text.charAt(at + i);
            }
            had = x.type(v, n);
        }
        return had;
    }

    static long digestOf(long[]... values) {
        long h = 613;
        for (long[] some : values) {
            for (long v : some) {
                h = 31 * h + v;
            }
        }
        return h;
    }

    /** A sentence that is tested must be one of the document's, so that a new document shows what to read again. */
    private static void sentencesStand() {
        String document = "";
        try {
            document = Files.readString(DOCUMENT).replaceAll("\\s+", " ");
        } catch (IOException e) {
            isTrue(DOCUMENT + " can be read", false);
        }
        for (String words : sentences) {
            if (!document.contains(words)) {
                wrong++;
                System.out.println("not in the document: " + words);
            }
        }
    }

    static void end() {
        if (!sentences.isEmpty()) {
            sentencesStand();
        }
        System.out.println(checks + " checks, " + wrong + " wrong");
        if (wrong != 0 || checks == 0) {
            System.exit(1);
        }
    }
}
