/** Promises 30 to 33: each sentence about THE PLAN that names a boundary case. */
public final class PlanBoundsTest {
    private static final String THREE = "arm20 1 0;hook0 0 0;dart60 1 0 0;";
    private static final int MOST_BYTES = 200;

    private PlanBoundsTest() {
    }

    public static void main(String[] args) {
        twoHundredBytes();
        fullByPieces();
        lowestBytes();
        clear();
        emptyOnes();
        itemsEnd();
        numbersAsTold();
        placesAsTold();
        oneOfEachAhead();
        twelveThrows();
        words();
        figures();
        bytes();
        blanks();
        endsTooEarly();
        firstOfTwoFaults();
        ranges();
        notSoMany();
        faultAheadOfThat();
        fullTexts();
        Check.end();
    }

    private static Run text(String text) {
        return Run.anew().types(text);
    }

    /** A FAULT at this place (or none: -1), which is no refusal; plan refuses by it. */
    private static void faultIs(String text, int place) {
        Run run = text(text).counted("fault()", place);
        if (place >= 0) {
            run.refused("plan(-1)", -20, Run.AS_NO).refused("plan(0)", -20, Run.AS_NO);
        } else {
            Check.isTrue("plan(-1) of " + text, run.call("plan(-1)") >= 0);
        }
        run.is("count(6)", text.length()).counted("fault()", place);
    }

    private static void twoHundredBytes() {
        Check.sentence(30, "THE PLAN is a TEXT (200 bytes at most)");
        Run run = Run.anew();
        for (int had = 0; had < MOST_BYTES; had += 8) {
            run.is("type(0, 8)", had + 8).is("count(6)", had + 8);
        }
        for (int n = 1; n <= 8; n++) {
            run.refused("type(0, " + n + ")", -4, Run.AS_FULL);
        }
        Run ones = Run.anew();
        for (int had = 0; had < MOST_BYTES; had++) {
            ones.is("type(59, 1)", had + 1);
        }
        ones.refused("type(59, 1)", -4, Run.AS_FULL).is("count(6)", MOST_BYTES);
        Check.sentence(30, "come to THE PLAN: how many it has. BAD; FULL.");
        // A wrong n is BAD ahead of FULL.
        ones.refused("type(59, 0)", -2, Run.AS_BAD).refused("type(59, 9)", -2, Run.AS_BAD);
        ones.refused("type(59, -1)", -2, Run.AS_BAD).refused("type(59, 201)", -2, Run.AS_BAD);
    }

    private static void fullByPieces() {
        Check.sentence(30, "Refused, changing nothing but STATUS");
        // Of bytes that do not all find room none comes.
        for (int room = 0; room < 8; room++) {
            for (int n = room + 1; n <= 8; n++) {
                Run run = text(" ".repeat(MOST_BYTES - room)).refused("type(0, " + n + ")", -4, Run.AS_FULL);
                if (room > 0) {
                    run.is("type(0, " + room + ")", MOST_BYTES).refused("type(0, 1)", -4, Run.AS_FULL);
                }
            }
        }
    }

    /** What digest tells of THE PLAN as the only thing told. */
    private static long digestOf(long... bytes) {
        return Check.digestOf(new long[] {0, 0, 0, 0, 0, 0, bytes.length}, Check.UNTOLD, bytes, Check.NO_FRACTION);
    }

    private static void lowestBytes() {
        Check.sentence(30, "The lowest n (1 .. 8) bytes of v, the highest of them first");
        long v = 0x4142434445464748L;
        long[] all = {0x41, 0x42, 0x43, 0x44, 0x45, 0x46, 0x47, 0x48};
        for (int n = 1; n <= 8; n++) {
            long[] lowest = new long[n];
            System.arraycopy(all, 8 - n, lowest, 0, n);
            Run.anew().is("type(" + v + ", " + n + ")", n).is("digest()", digestOf(lowest));
            // What stands above them does not count, though it be below 0.
            long above = n == 8 ? v : v | -1L << (8 * n);
            Run.anew().is("type(" + above + ", " + n + ")", n).is("digest()", digestOf(lowest));
        }
        // Bytes above 127 stay what they are; the greatest and the least v.
        Run.anew().does("type(-1, 8)").is("digest()", digestOf(255, 255, 255, 255, 255, 255, 255, 255));
        Run.anew().does("type(-1, 1)").is("digest()", digestOf(255));
        Run.anew().does("type(0, 8)").is("digest()", digestOf(0, 0, 0, 0, 0, 0, 0, 0));
        Run.anew().does("type(" + Long.MIN_VALUE + ", 8)").is("digest()", digestOf(128, 0, 0, 0, 0, 0, 0, 0));
        Run.anew().does("type(" + Long.MAX_VALUE + ", 8)").is("digest()", digestOf(127, 255, 255, 255, 255, 255, 255, 255));
        Run.anew().does("type(" + Long.MIN_VALUE + ", 7)").is("digest()", digestOf(0, 0, 0, 0, 0, 0, 0));
        Run.anew().does("type(128, 1)", "type(127, 1)", "type(256, 1)").is("digest()", digestOf(128, 127, 0));
        Run.anew().does("type(2147483648, 4)").is("digest()", digestOf(128, 0, 0, 0));
        Run.anew().does("type(4294967296, 5)").is("digest()", digestOf(1, 0, 0, 0, 0));
    }

    private static void clear() {
        Check.sentence(31, "THE PLAN is empty: how many it had.");
        Run run = Run.anew().is("clear()", 0).is("clear()", 0).is("digest()", digestOf());
        run.is("type(97, 1)", 1).is("clear()", 1).is("clear()", 0).is("count(6)", 0).is("digest()", digestOf());
        run.types(" ".repeat(MOST_BYTES)).refused("type(0, 1)", -4, Run.AS_FULL).is("clear()", MOST_BYTES).is("count(6)", 0);
        run.is("type(59, 1)", 1).is("fault()", 0).is("digest()", digestOf(59)).is("clear()", 1).is("fault()", -1);
        // What a text told is gone with it.
        text(THREE + "throw0 0 0;").is("plan(0)", 50).is("clear()", 44).is("plan(-1)", 0).counted("plan(0)", -5)
                .types("throw0 0 0;").is("fault()", 0);
    }

    private static void emptyOnes() {
        Check.sentence(32, "if it ends too early (an empty one, one of blanks alone: none)");
        faultIs("", -1);
        for (int n : new int[] {1, 7, 8, 9, 199, MOST_BYTES}) {
            faultIs(" ".repeat(n), -1);
            text(" ".repeat(n)).is("plan(-1)", 0).counted("plan(0)", -5);
        }
        // Another byte alone is no blank.
        for (int sign : new int[] {0, 9, 10, 13, 31, 33, 160}) {
            faultIs("" + (char) sign, 0);
            faultIs("  " + (char) sign, 2);
        }
    }

    private static void itemsEnd() {
        Check.sentence(32, "ITEMS, each ended by ;");
        String[] items = {"arm 20 1 0", "hook 0 0 0", "dart 60 1 0 0"};
        for (String item : items) {
            faultIs(item, item.length());
            faultIs(item + ";", -1);
            faultIs(item + " ;", -1);
            faultIs(item + ";;", item.length() + 1);
            faultIs(item + " 0;", item.length() + 1);
            faultIs(item + " arm 20 1 0;", item.length() + 1);
            // One number fewer: the ; can not stand there.
            int last = item.lastIndexOf(' ');
            faultIs(item.substring(0, last) + ";", last);
            faultIs(item.substring(0, last) + " ;", last + 1);
            faultIs(item.substring(0, last) + " x;", last + 1);
        }
        String thrown = THREE + "throw 0 0 0";
        faultIs(thrown, thrown.length());
        faultIs(thrown + ";", -1);
        faultIs(thrown + " 0;", thrown.length() + 1);
        faultIs(THREE + "throw 0 0;", thrown.length() - 2);
        faultIs(THREE + "throw;", THREE.length() + 5);
        faultIs(";", 0);
        faultIs(" ;", 1);
        faultIs("20", 0);
        // The order is free, and none is needed.
        faultIs("dart 60 1 0 0;arm 20 1 0;", -1);
        faultIs("hook 0 0 0;hook 0 0 0;", -1);
    }

    /** The item's "?" from least to most; beside them its place is the FAULT. */
    private static void number(String item, int least, int most) {
        int place = item.indexOf('?');
        faultIs(item.replace("?", "" + least), -1);
        faultIs(item.replace("?", "" + most), -1);
        faultIs(item.replace("?", "" + (most + 1)), place);
        faultIs(item.replace("?", "999"), place);
        if (least > 0) {
            faultIs(item.replace("?", "" + (least - 1)), place);
            faultIs(item.replace("?", "0"), place);
        }
        faultIs(item.replace("?", "-1"), place);
        faultIs(item.replace("?", "00" + least % 10), least < 10 ? -1 : place);
    }

    private static void numbersAsTold() {
        Check.sentence(32, "arm REACH STRENGTH LAG; hook LENGTH WEIGHT PLACE; dart MASS STIFF TIP TAIL; throw KIND x ANGLE");
        number("arm ? 1 0;", 20, 90);
        number("arm 20 ? 0;", 1, 99);
        number("arm 20 1 ?;", 0, 9);
        number("hook ? 0 0;", 0, 99);
        number("hook 0 ? 0;", 0, 99);
        number("dart ? 1 0 0;", 20, 300);
        number("dart 60 ? 0 0;", 1, 99);
        number("dart 60 1 ? 0;", 0, 60);
        number("dart 60 1 0 ?;", 0, 9);
        number(THREE + "throw ? 0 0;", 0, 6);
        number(THREE + "throw 0 ? 0;", 0, 19);
        number(THREE + "throw 0 0 ?;", 0, 6);
    }

    private static void placesAsTold() {
        Check.sentence(32, "a number not as told");
        // PLACE by the LENGTH of its own item.
        number("hook 99 0 ?;", 0, 99);
        number("hook 50 0 ?;", 0, 50);
        number("hook 1 0 ?;", 0, 1);
        number("hook 0 0 ?;", 0, 0);
        number("hook 99 0 99;hook 5 0 ?;", 0, 5);
        number("hook 5 0 5;hook 99 0 ?;", 0, 99);
        number("hook 7 99 ?;", 0, 7);
        // That of the object's own hooks does not count.
        Run.anew().does("hook(99, 0, 99)").types("hook 5 0 6;").is("fault()", 9);
    }

    private static void oneOfEachAhead() {
        Check.sentence(32, "by the arm, hook, dart told last: one of each ahead");
        String[] items = {"arm20 1 0;", "hook0 0 0;", "dart60 1 0 0;"};
        String thrown = "throw0 0 0;";
        faultIs(thrown, 0);
        for (int one = 0; one < 3; one++) {
            faultIs(items[one] + thrown, items[one].length());
            faultIs(items[one] + items[one] + items[one] + thrown, 3 * items[one].length());
            int other = (one + 1) % 3;
            int third = (one + 2) % 3;
            String two = items[one] + items[other];
            faultIs(two + thrown, two.length());
            faultIs(two + thrown + items[third], two.length());
            faultIs(two + items[third] + thrown, -1);
            faultIs(items[other] + items[one] + items[third] + thrown, -1);
        }
        // Those of the object do not count, and a text told ahead neither.
        Run.anew().does("arm(20, 1, 0)", "hook(0, 0, 0)", "dart(60, 1, 0, 0)").types(thrown).is("fault()", 0);
        text(THREE).is("fault()", -1).does("clear()").types(thrown).is("fault()", 0);
        // The last ones: PACE 10 by STRENGTH 1, 20 by 2, with five ROUNDS each.
        text("arm20 1 0;arm20 2 0;hook0 0 0;dart60 99 0 0;throw0 0 0;").is("plan(0)", 100);
        text("arm20 2 0;arm20 1 0;hook0 0 0;dart60 99 0 0;throw0 0 0;arm20 2 0;").is("plan(0)", 50);
        text("arm20 2 0;hook40 0 0;hook0 0 0;dart60 99 0 0;dart120 99 0 0;throw0 0 0;").is("plan(0)", 50);
    }

    private static void twelveThrows() {
        Check.sentence(32, "12 throws at most");
        for (int n : new int[] {0, 1, 2, 11, 12}) {
            String text = THREE + "throw0 0 0;".repeat(n);
            faultIs(text, -1);
            text(text).is("plan(-1)", n).counted("plan(" + n + ")", -5);
        }
        Check.sentence(32, "a throw ahead of arm, hook and dart, a 13th");
        String twelve = THREE + "throw0 0 0;".repeat(12);
        faultIs(twelve + "throw0 0 0;", twelve.length());
        faultIs(twelve + "  throw0 0 0;", twelve.length() + 2);
        faultIs(twelve + "throw", twelve.length());
        faultIs(twelve + "throw x", twelve.length());
        faultIs(twelve + "arm20 1 0;", -1);
        faultIs(twelve + "arm20 1 0", twelve.length() + 9);
        faultIs(twelve + "arm20 1 0;throw", twelve.length() + 10);
        // It reads anew each time.
        text(twelve).is("fault()", -1).is("fault()", -1).is("plan(-1)", 12).is("plan(11)", 50).is("fault()", -1);
    }

    private static void words() {
        Check.sentence(32, "a word that is none");
        String[] none = {"a", "z", "ar", "armm", "arms", "rm", "aarm", "hoo", "hooks", "dar", "darts", "thro", "throws", "three",
            "clean", "brm", "fook", "fart", "phrow", "ark", "hood", "dark", "thron", "armhook", "abcdefghijklmnopqrstuvwxyz"};
        for (String word : none) {
            faultIs(word, 0);
            faultIs(word + " 20 1 0;", 0);
            faultIs("  " + word + "20 1 0;", 2);
            faultIs("arm 20 1 0;" + word + " 20 1 0;", 11);
        }
        Check.sentence(32, "words of letters a .. z (a KIND is told as its number)");
        faultIs(THREE + "throw early 0 0;", THREE.length() + 6);
        // Ahead of a and behind z: no letters, so that they end a word or begin none.
        faultIs("`rm 20 1 0;", 0);
        faultIs("{rm 20 1 0;", 0);
        faultIs("arm`20 1 0;", 3);
        faultIs("arm{20 1 0;", 3);
        faultIs("ARM 20 1 0;", 0);
        faultIs("Arm 20 1 0;", 0);
        faultIs("arM 20 1 0;", 0);
        faultIs("armM 20 1 0;", 3);
    }

    private static void figures() {
        Check.sentence(32, "figures (1 to 3 are one number)");
        faultIs("arm 20 1 0;", -1);
        faultIs("arm 020 01 0;", -1);
        faultIs("arm 020 001 000;", -1);
        faultIs("dart 300 099 060 009;", -1);
        text("arm020 001 000;hook000 000 000;dart060 001 000 000;throw000 000 000;").is("plan(0)", 50);
        Check.sentence(32, "a run of four figures or more (at its first one)");
        faultIs("arm 0020 1 0;", 4);
        faultIs("arm 2020 1 0;", 4);
        faultIs("arm 20 0001 0;", 7);
        faultIs("arm 20 1 0000;", 9);
        faultIs("arm 20 1 00000;", 9);
        faultIs("arm0020 1 0;", 3);
        faultIs("0000", 0);
        faultIs("arm 20 1 0 0000", 11);
        // 2 to the 32 and 20 is 20 where it wraps.
        faultIs("arm 4294967316 1 0;", 4);
        faultIs("arm 18446744073709551636 1 0;", 4);
        faultIs("arm 20 4294967297 0;", 7);
        faultIs("arm 20 1 " + "0".repeat(190), 9);
        // Ahead of 0 and behind 9: no figures.
        faultIs("arm /20 1 0;", 4);
        faultIs("arm 20/ 1 0;", 6);
        faultIs("arm :20 1 0;", 4);
        faultIs("arm 20: 1 0;", 6);
    }

    private static void bytes() {
        Check.sentence(32, "a byte that begins none, too");
        for (int sign = 0; sign < 256; sign++) {
            boolean isBlank = sign == ' ';
            faultIs("arm 20 1 0;" + (char) sign, isBlank ? -1 : 11);
            // As many of them as may be, ahead of the first TOKEN.
            faultIs("" + (char) sign + (char) sign + "arm 20 1 0;", isBlank ? -1 : 0);
            if (sign != ';' && !isBlank && !Character.isDigit(sign)) {
                faultIs("arm 20 1 0" + (char) sign + ";", 10);
            }
        }
    }

    private static void blanks() {
        Check.sentence(32, "blanks (32), any number, ahead of, between and behind TOKENS (needed only between two words, two numbers)");
        faultIs("   arm   20   1   0   ;   hook   0   0   0   ;   ", -1);
        faultIs("arm20 1 0;hook0 0 0;dart60 1 0 0;throw0 0 0;", -1);
        faultIs(" arm20 1 0;", -1);
        faultIs("arm20 1 0; ", -1);
        faultIs("arm20 1 0 ;", -1);
        faultIs("arm" + " ".repeat(180) + "20 1 0;", -1);
        faultIs(" ".repeat(190) + "arm20 1 0;", -1);
        // Two numbers without a blank are one; two words, too.
        faultIs("arm201 0;", 3);
        faultIs("arm 20 10;", 9);
        faultIs("arm 20 1 0;hookhook 0 0 0;", 11);
        // A number and a word need none, but this word can not stand there.
        faultIs("arm20 1arm;", 7);
        faultIs("arm20arm;", 5);
        faultIs("20arm", 0);
        // A blank within a word or a number parts it.
        faultIs("ar m 20 1 0;", 0);
        faultIs("arm 2 0 1 0;", 4);
        faultIs("arm 20 1 0 0;", 11);
    }

    private static void endsTooEarly() {
        Check.sentence(32, "the TEXT's length, if it ends too early");
        String whole = "arm 20 1 0;hook 9 8 7;dart 60 1 0 0;throw 0 0 0;";
        for (int length = 0; length <= whole.length(); length++) {
            String text = whole.substring(0, length);
            faultIs(text, cutFault(text));
            faultIs(text + "   ", cutFault(text) == length ? length + 3 : cutFault(text));
        }
    }

    /** Of that text's beginnings: none at an item's end, a cut word or a cut number where it begins, else its length. */
    private static int cutFault(String text) {
        if (text.isEmpty() || text.endsWith(";")) {
            return -1;
        }
        String item = text.substring(text.lastIndexOf(';') + 1);
        int start = text.length() - item.length();
        for (String word : new String[] {"arm", "hook", "dart", "throw"}) {
            if (word.startsWith(item) && !word.equals(item)) {
                return start;
            }
        }
        // The 2 of 20, the 6 of 60 are no REACH, no MASS.
        boolean isShort = item.equals("arm 2") || item.equals("dart 6");
        return isShort ? text.length() - 1 : text.length();
    }

    private static void firstOfTwoFaults() {
        Check.sentence(32, "the place of the first byte of the first TOKEN that can not stand there");
        faultIs("arm 20 100 10;spear", 7);
        faultIs("arm 20 1 10;throw 0 0 0;", 9);
        faultIs("throw 7 0 0;", 0);
        faultIs("x y", 0);
        faultIs("arm 19", 4);
        faultIs("arm 91 100 10", 4);
        faultIs("arm 20 1 0;#arm", 11);
        faultIs("arm 20 1 0;hook 5 0 6", 20);
        // At the 200th byte.
        faultIs(" ".repeat(199) + "x", 199);
        faultIs(" ".repeat(198) + "xx", 198);
        faultIs("arm" + " ".repeat(195) + "19", 198);
    }

    private static void ranges() {
        Check.sentence(33, "RANGE of the i-th throw of THE PLAN (0 on); how many (i = NONE).");
        // PACE 10, then EARLY by 1 .. 9: 50 less 5 for each.
        StringBuilder text = new StringBuilder("arm20 1 0;hook0 0 0;dart60 99 0 0;");
        for (int x = 0; x <= 11; x++) {
            text.append("throw1 ").append(x).append(" 0;");
        }
        Run run = text(text.toString()).is("plan(-1)", 12);
        for (int i = 11; i >= 0; i--) {
            run.is("plan(" + i + ")", Math.max(5, 50 - 5 * i));
        }
        run.counted("plan(12)", -5);
        // All that can be told least and most, as if it were flung.
        Run most = Run.anew().does("arm(90, 99, 9)", "hook(99, 99, 99)", "dart(300, 99, 60, 9)");
        most.types("arm 90 99 9;hook 99 99 99;dart 300 99 60 9;throw 6 19 6;").is("plan(0)", most.call("fling(6, 19, 0, 0, 0, 6, 0)"));
        Run least = Run.anew().does("arm(20, 1, 0)", "hook(0, 0, 0)", "dart(20, 1, 0, 0)");
        least.types("arm 20 1 0;hook 0 0 0;dart 20 1 0 0;throw 0 0 0;").is("plan(0)", least.call("fling(0, 0, 0, 0, 0, 0, 0)"));
        // It makes no ARM, no HOOK, no DART, and leaves THE FRACTION.
        run.is("count(0)", 0).is("count(1)", 0).is("count(2)", 0).fraction(0, 1);
    }

    private static void notSoMany() {
        Check.sentence(33, "-5: not so many.");
        Run none = Run.anew().is("plan(-1)", 0).counted("plan(0)", -5).counted("plan(1)", -5);
        none.counted("plan(" + Integer.MAX_VALUE + ")", -5).counted("plan(12)", -5);
        text(THREE).is("plan(-1)", 0).counted("plan(0)", -5);
        Run one = text(THREE + "throw0 0 0;").is("plan(-1)", 1).is("plan(0)", 50).counted("plan(1)", -5);
        one.counted("plan(11)", -5).counted("plan(12)", -5).counted("plan(" + Integer.MAX_VALUE + ")", -5);
    }

    private static void faultAheadOfThat() {
        Check.sentence(33, "BAD: -10: i below -1, too; NO: -20: a FAULT.");
        Run run = text("x").refused("plan(-1)", -20, Run.AS_NO).refused("plan(0)", -20, Run.AS_NO);
        run.refused("plan(12)", -20, Run.AS_NO).refused("plan(" + Integer.MAX_VALUE + ")", -20, Run.AS_NO);
        // BAD ahead of NO.
        run.refused("plan(-2)", -10, Run.AS_BAD).refused("plan(" + Integer.MIN_VALUE + ")", -10, Run.AS_BAD);
        // A FAULT behind the throw that is asked.
        Run behind = text(THREE + "throw0 0 0;arm").refused("plan(0)", -20, Run.AS_NO).refused("plan(-1)", -20, Run.AS_NO);
        behind.types("20 1 0;").is("plan(0)", 50).is("plan(-1)", 1);
    }

    private static void fullTexts() {
        Check.sentence(32, "THE PLAN is a TEXT (200 bytes at most) of ITEMS");
        String twelve = THREE + "throw0 0 0;".repeat(12);
        String blanks = " ".repeat(MOST_BYTES - twelve.length());
        text(blanks + twelve).is("count(6)", MOST_BYTES).is("fault()", -1).is("plan(-1)", 12).is("plan(11)", 50);
        text(twelve + blanks).is("count(6)", MOST_BYTES).is("fault()", -1).is("plan(11)", 50);
        String early = twelve.substring(0, twelve.length() - 1);
        text(early + " " + blanks).is("count(6)", MOST_BYTES).is("fault()", MOST_BYTES);
        text(early + blanks + ";").is("count(6)", MOST_BYTES).is("fault()", -1).is("plan(11)", 50);
        text(twelve + blanks.substring(1) + ";").is("fault()", 199);
        text(twelve + blanks.substring(3) + "arm").is("fault()", MOST_BYTES);
        // As many ITEMS as have room.
        text("hook0 0 0;".repeat(20)).is("count(6)", MOST_BYTES).is("fault()", -1).is("plan(-1)", 0);
        text(";".repeat(MOST_BYTES)).is("fault()", 0);
        text("a".repeat(MOST_BYTES)).is("fault()", 0);
        text("0".repeat(MOST_BYTES)).is("fault()", 0);
        text("arm " + "0".repeat(MOST_BYTES - 4)).is("fault()", 4);
        text("" + (char) 255 + " ".repeat(MOST_BYTES - 1)).is("fault()", 0);
    }
}
