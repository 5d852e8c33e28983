import java.lang.management.ManagementFactory;

/** What 512 of the dearest calls make: next to nothing beyond the object's own rows and its two IMAGES. */
public final class RoomTest {
    private static final int CALLS = 512;
    private static final long BYTES_OF_AN_OBJECT = 16384;

    private RoomTest() {
    }

    public static void main(String[] args) {
        use();
        com.sun.management.ThreadMXBean threads =
                (com.sun.management.ThreadMXBean) ManagementFactory.getThreadMXBean();
        long id = Thread.currentThread().getId();
        long before = threads.getThreadAllocatedBytes(id);
        long calls = use();
        long made = threads.getThreadAllocatedBytes(id) - before;
        System.out.println(calls + " calls made " + made + " bytes");
        Check.isTrue("an object and its calls stay within " + BYTES_OF_AN_OBJECT + " bytes, not " + made,
                made > 0 && made <= BYTES_OF_AN_OBJECT);
        Check.end();
    }

    private static long use() {
        ThrowHook x = new ThrowHook();
        long calls = tell(x);
        while (calls < CALLS) {
            int i = (int) (calls % 16);
            switch (i) {
                case 0: x.length(0, 0, 0, 6); break;
                case 1: x.contest(0, 0, 0, 6, 20, 300); break;
                case 2: x.straight(0, 0, 0, 1); break;
                case 3: x.odds(3); break;
                case 4: x.parts(); break;
                case 5: x.pairs(); break;
                case 6: x.kinds(1); break;
                case 7: x.which(3, 4); break;
                case 8: x.tip(1, 2); break;
                case 9: x.came(2); break;
                case 10: x.plan(11); break;
                case 11: x.fault(); break;
                case 12: x.image(i % 2); break;
                case 13: x.image(1); break;
                case 14: x.from(1); break;
                default: x.digest(); break;
            }
            calls++;
        }
        return calls;
    }

    private static long tell(ThrowHook x) {
        x.arm(90, 99, 9);
        x.hook(99, 99, 99);
        x.dart(20, 50, 60, 9);
        for (int i = 0; i < 4; i++) {
            x.story(i, 0, 19 - i);
            x.story(i, 1, 9 - i);
        }
        x.tries(30, 15);
        for (int i = 0; i < 16; i++) {
            x.person(i % 2, i, i % 3 == 0);
        }
        for (int i = 0; i < 12; i++) {
            x.thorn(1 + i, 0, 10, 0);
        }
        for (int i = 0; i < 6; i++) {
            x.butt(10);
        }
        int pieces = 0;
        String text = "arm90 99 9;hook9 9 9;dart20 9 0 9;" + "throw0 0 6;".repeat(12);
        for (int at = 0; at < text.length(); at++) {
            x.type(text.charAt(at), 1);
            pieces++;
        }
        return 46 + pieces;
    }
}
