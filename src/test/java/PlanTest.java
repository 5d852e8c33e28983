/** Promises 30 to 33: a plan of throws told as a text. */
public final class PlanTest {
    private static final String THREE = "arm 50 5 2;hook 50 0 0;dart 100 20 10 3;";

    private PlanTest() {
    }

    public static void main(String[] args) {
        type();
        clear();
        noFault();
        items();
        numbers();
        tokens();
        endsTooEarly();
        thirteenThrows();
        plan();
        toldLast();
        fullPlan();
        Check.end();
    }

    private static void type() {
        ThrowHook x = new ThrowHook();
        for (int n : new int[] {0, 9, -1, Integer.MIN_VALUE, Integer.MAX_VALUE}) {
            Check.due(30, "type, wrong", x.type(59L, n), -2);
        }
        Check.due(30, "nothing came", x.count(6), 0);
        // The lowest n bytes alone, the highest of them first.
        x.type(0x4142434445464748L, 8);
        x.type(-1L << 16 | 0x6162, 2);
        x.type(-1L, 1);
        x.type(0, 1);
        long[] bytes = {0x41, 0x42, 0x43, 0x44, 0x45, 0x46, 0x47, 0x48, 0x61, 0x62, 255, 0};
        Check.due(30, "the bytes", x.digest(), Check.digestOf(new long[] {0, 0, 0, 0, 0, 0, 12},
                Check.UNTOLD, bytes, Check.NO_FRACTION));
        Check.due(30, "type, 1", x.type(0, 1), 13);
        Check.due(30, "type, 8", x.type(0, 8), 21);
        for (int i = 0; i < 22; i++) {
            x.type(0, 8);
        }
        Check.due(30, "type, too many", x.type(0, 4), -4);
        Check.due(30, "type, as many as there may be", x.type(0, 3), 200);
        Check.due(30, "type, one more", x.type(0, 1), -4);
        Check.due(30, "type, one more, wrong", x.type(0, 0), -2);
        Check.due(30, "count(6)", x.count(6), 200);
        Check.status("type", x, 6, 0, 2);
    }

    private static void clear() {
        ThrowHook x = new ThrowHook();
        Check.due(31, "clear of none", x.clear(), 0);
        Check.type(x, "arm 50");
        Check.due(31, "clear", x.clear(), 6);
        Check.due(31, "clear", x.clear(), 0);
        Check.due(31, "count(6)", x.count(6), 0);
        Check.type(x, THREE);
        Check.due(31, "type behind it", x.fault(), -1);
        // What was told ahead is not told any more.
        x.clear();
        Check.type(x, "throw 0 0 0;");
        Check.due(31, "a throw alone", x.fault(), 0);
        Check.status("clear", x, 0, 0, 0);
    }

    private static void faultIs(String text, int place) {
        ThrowHook x = new ThrowHook();
        Check.type(x, text);
        long before = x.digest();
        Check.due(32, "fault of '" + text + "'", x.fault(), place);
        Check.status("fault is no refusal", x, 0, 0, 0);
        if (place >= 0) {
            Check.due(33, "plan(-1) of '" + text + "'", x.plan(-1), -20);
            Check.due(33, "plan(0) of '" + text + "'", x.plan(0), -20);
            Check.due(33, "plan(99) of '" + text + "'", x.plan(99), -20);
            Check.status("plan", x, 0, 3, 0);
        }
        Check.due(32, "digest", x.digest(), before);
    }

    private static void noFault() {
        faultIs("", -1);
        faultIs(" ", -1);
        faultIs("        ", -1);
        faultIs("arm 20 1 0;", -1);
        faultIs("arm 90 99 9;", -1);
        faultIs("  arm  20  1  0  ;  ", -1);
        faultIs("arm20 1 0;", -1);
        faultIs("arm 020 001 000;", -1);
        faultIs("hook 0 0 0;", -1);
        faultIs("hook 99 99 99;", -1);
        faultIs("hook 7 0 7;", -1);
        faultIs("dart 20 1 0 0;", -1);
        faultIs("dart 300 99 60 9;", -1);
        faultIs(THREE, -1);
        faultIs(THREE + "throw 0 0 0;throw 6 19 6;", -1);
        faultIs("dart 20 1 0 0;hook 0 0 0;arm 20 1 0;arm 20 1 0;throw0 0 0;", -1);
    }

    private static void items() {
        faultIs("throw 0 0 0;", 0);
        faultIs("arm 50 5 2;hook 50 0 0;throw 0 0 0;", 23);
        faultIs("arm 50 5 2;dart 100 20 10 3;throw 0 0 0;", 28);
        faultIs("hook 50 0 0;dart 100 20 10 3; throw 0 0 0;", 30);
        faultIs("arm 50 5 2;arm 50 5 2;arm 50 5 2;throw 0 0 0;", 33);
        faultIs(";", 0);
        faultIs("arm 50 5 2;;", 11);
        faultIs("arm 50 5 2; ;", 12);
        faultIs("50 5 2;", 0);
        faultIs("spear 50 5 2;", 0);
        faultIs("arms 50 5 2;", 0);
        faultIs("ar 50 5 2;", 0);
        faultIs("armhook 50 5 2;", 0);
        faultIs("ham 50 5 2;", 0);
        faultIs("hooj 5 5 2;", 0);
        faultIs("darthook", 0);
        faultIs("arm 50 5 2 hook 5 0 0;", 11);
        faultIs("arm 50 5 hook 5 0 0;", 9);
        faultIs("arm 50 5;", 8);
        faultIs("arm;", 3);
        faultIs("arm 50 5 2 3;", 11);
        faultIs("dart 100 20 10;", 14);
        faultIs("dart 100 20 10 3 0;", 17);
        faultIs(THREE + "throw clean 0 0;", 46);
        faultIs(THREE + "throw 0 0;", 49);
        faultIs(THREE + "throw 0 0 0 0;", 52);
    }

    private static void numbers() {
        faultIs("arm 19 1 0;", 4);
        faultIs("arm 91 1 0;", 4);
        faultIs("arm 20 0 0;", 7);
        faultIs("arm 20 100 0;", 7);
        faultIs("arm 20 1 10;", 9);
        faultIs("hook 100 0 0;", 5);
        faultIs("hook 9 100 0;", 7);
        faultIs("hook 9 0 10;", 9);
        faultIs("hook 0 0 1;", 9);
        // PLACE is no more than the LENGTH told with it, whatever was told ahead.
        faultIs("hook 99 0 99;hook 5 0 6;", 22);
        faultIs("dart 19 1 0 0;", 5);
        faultIs("dart 301 1 0 0;", 5);
        faultIs("dart 20 0 0 0;", 8);
        faultIs("dart 20 100 0 0;", 8);
        faultIs("dart 20 1 61 0;", 10);
        faultIs("dart 20 1 0 10;", 12);
        faultIs(THREE + "throw 7 0 0;", 46);
        faultIs(THREE + "throw 0 20 0;", 48);
        faultIs(THREE + "throw 0 0 7;", 50);
        faultIs("arm 999 1 0;", 4);
    }

    private static void tokens() {
        faultIs("arm 0020 1 0;", 4);
        faultIs("arm 20 1000 0;", 7);
        faultIs("arm 20 1 0000;", 9);
        faultIs("arm 20 1 01234567890123456789;", 9);
        faultIs("1234", 0);
        faultIs("arm 20 1 0 1234;", 11);
        faultIs("Arm 20 1 0;", 0);
        faultIs("arm 20 1 -1;", 9);
        faultIs("arm\t20 1 0;", 3);
        faultIs("arm\n20 1 0;", 3);
        faultIs("arm 20,1 0;", 6);
        faultIs("arm 20 1 0:", 10);
        faultIs("arm 20 1 0`", 10);
        faultIs("arm 20 1 0{", 10);
        faultIs("arm 20 1 /0", 9);
        faultIs("arm 20 1x0;", 8);
        faultIs("armX20 1 0;", 3);
        faultIs("\u0000arm 20 1 0;", 0);
        faultIs("arm 20 1 0;\u00ff", 11);
        faultIs("arm 20 1 0;\u0080", 11);
        faultIs("arm 20 1 0; \u00a0 ", 12);
        faultIs("arm 20 1 0;\u00e1rm 20 1 0;", 11);
    }

    private static void endsTooEarly() {
        faultIs("arm", 3);
        faultIs("arm ", 4);
        faultIs("arm 50", 6);
        faultIs("arm 50 5 2", 10);
        faultIs("arm 50 5 2  ", 12);
        faultIs("arm 50 5 2;hook", 15);
        faultIs(THREE + "throw", 45);
        faultIs(THREE + "throw 0 0 0", 51);
        // What can not stand there is told ahead of that.
        faultIs("a", 0);
        faultIs("throw", 0);
        faultIs("arm 1", 4);
    }

    private static String repeated(String piece, int n) {
        return piece.repeat(n);
    }

    private static void thirteenThrows() {
        String three = "arm20 1 0;hook0 0 0;dart20 1 0 0;";
        String twelve = three + repeated("throw0 0 0;", 12);
        ThrowHook x = new ThrowHook();
        Check.type(x, twelve);
        Check.due(32, "twelve", x.fault(), -1);
        Check.due(33, "twelve", x.plan(-1), 12);
        Check.due(33, "the last one", x.plan(11), x.plan(0));
        Check.due(33, "no thirteenth", x.plan(12), -5);
        faultIs(twelve + "arm20 1 0;", -1);
        faultIs(twelve + "throw0 0 0;", twelve.length());
        faultIs(twelve + " throw", twelve.length() + 1);
    }

    private static void plan() {
        ThrowHook x = new ThrowHook();
        Check.due(33, "plan(-1), empty", x.plan(-1), 0);
        Check.due(33, "plan(0), empty", x.plan(0), -5);
        // The slow throw of ThrowsTest, and the same EARLY by 5, 9.
        Check.type(x, "arm 20 1 0;hook 0 0 0;dart 60 1 0 0;throw 0 19 0;throw 1 5 0;throw 1 9 0;");
        Check.due(33, "plan(-1)", x.plan(-1), 3);
        Check.due(33, "plan(0)", x.plan(0), 50);
        Check.due(33, "plan(1)", x.plan(1), 25);
        Check.due(33, "plan(2)", x.plan(2), 5);
        Check.due(33, "plan(3)", x.plan(3), -5);
        Check.due(33, "plan, far beyond", x.plan(Integer.MAX_VALUE), -5);
        Check.due(33, "plan, wrong", x.plan(-2), -10);
        Check.due(33, "plan, wrong", x.plan(Integer.MIN_VALUE), -10);
        Check.due(33, "count(0)", x.count(0), 0);
        Check.due(33, "count(1)", x.count(1), 0);
        Check.due(33, "count(2)", x.count(2), 0);
        Check.status("plan", x, 2, 0, 0);
        x.type('x', 1);
        Check.due(33, "plan with a FAULT", x.plan(0), -20);
        Check.due(33, "plan with a FAULT, beyond", x.plan(3), -20);
        Check.due(33, "plan with a FAULT, wrong", x.plan(-2), -10);
        Check.status("plan", x, 3, 2, 0);
    }

    /** Each throw goes by what was told last ahead of it, and by that alone. */
    private static void toldLast() {
        ThrowHook x = new ThrowHook();
        x.arm(60, 70, 6);
        x.arm(89, 48, 8);
        x.hook(40, 30, 25);
        x.hook(18, 1, 1);
        x.dart(80, 31, 12, 4);
        x.dart(215, 34, 10, 3);
        Check.type(x, "arm 60 70 6;hook 40 30 25;dart 80 31 12 4;throw 0 7 3;arm 89 48 8;throw 5 7 2;"
                + "dart 215 34 10 3;throw 6 11 1;hook 18 1 1;throw 4 0 6;arm 60 70 6;");
        int[][] thrown = {{0, 7, 0, 0, 0, 3}, {5, 7, 1, 0, 0, 2}, {6, 11, 1, 0, 1, 1}, {4, 0, 1, 1, 1, 6}};
        Check.due(33, "plan(-1)", x.plan(-1), 4);
        for (int i = 0; i < 4; i++) {
            int[] a = thrown[i];
            Check.due(33, "plan(" + i + ")", x.plan(i), x.fling(a[0], a[1], a[2], a[3], a[4], a[5], 0));
        }
        Check.due(33, "plan(0)", x.plan(0), 22725);
    }

    private static void fullPlan() {
        String text = THREE + repeated("throw 0 0 0;", 12);
        text += repeated(" ", 199 - text.length()) + ";";
        ThrowHook x = new ThrowHook();
        Check.due(30, "200 bytes", Check.type(x, text), 200);
        Check.due(32, "fault at the last byte", x.fault(), 199);
        ThrowHook blanks = new ThrowHook();
        Check.due(30, "200 blanks", Check.type(blanks, repeated(" ", 200)), 200);
        Check.due(32, "200 blanks", blanks.fault(), -1);
        ThrowHook early = new ThrowHook();
        Check.due(30, "200 bytes", Check.type(early, "arm" + repeated(" ", 197)), 200);
        Check.due(32, "ends too early", early.fault(), 200);
        ThrowHook letters = new ThrowHook();
        Check.type(letters, repeated(" ", 100) + repeated("a", 100));
        Check.due(32, "a long word", letters.fault(), 100);
        ThrowHook figures = new ThrowHook();
        Check.type(figures, "arm " + repeated("0", 196));
        Check.due(32, "a long number", figures.fault(), 4);
    }
}
