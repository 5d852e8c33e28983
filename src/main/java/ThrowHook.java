/** A hook that throws, and what is told, asked and found about it: see README.md. */
public final class ThrowHook {
    public static final int NONE = -1, BAD = -2, NO = -3, FULL = -4;

    // A throw is told as a row of numbers, in the order in which the plan's items tell them.
    private static final int REACH = 0, STRENGTH = 1, LAG = 2;
    private static final int LENGTH = 3, WEIGHT = 4, PLACE = 5;
    private static final int MASS = 6, STIFF = 7, TIP = 8, TAIL = 9;
    private static final int KIND = 10, EXTRA = 11, ANGLE = 12;
    private static final int SLOTS = 13;
    private static final int[] LEAST = {20, 1, 0, 0, 0, 0, 20, 1, 0, 0, 0, 0, 0};
    private static final int[] MOST = {90, 99, 9, 99, 99, 99, 300, 99, 60, 9, 6, 19, 6};

    private static final int CLEAN = 0, EARLY = 1, SOFT = 2, HARD = 3, HIGH = 4, OVERARM = 5, WEIGHTED = 6;

    private static final int STORIES = 4, SORTS = 3, CLASSES = 6, LAYERS = 8, LANDS = 4;
    private static final int FIRST_THORNS = 6;
    private static final int PLAN_BYTES = 200, PLAN_THROWS = 12;
    private static final int IMAGES = 2;

    private static final int CHANCE = 0, PRIOR = 1;
    private static final int GROUP = 0, FAR = 1, WAS_FIRST = 2;
    private static final int LONG = 0, LAND = 1, HOLLOW = 2, WORN = 3;
    private static final int ARROWS = 0, DARTS = 1;

    private static final int WERE_BAD = 0, WERE_NO = 1, WERE_FULL = 2;

    private final State now = new State();
    private final State[] images = new State[IMAGES];
    private final Launch launch = new Launch();
    private final PlanReader reader = new PlanReader();
    private final Finds finds = new Finds();
    private final Odds weights = new Odds();
    private final Fraction fraction = new Fraction();
    private final int[] refused = new int[3];

    public ThrowHook() {
    }

    // ---- throws

    public int arm(int reach, int strength, int lag) {
        if (!fits(REACH, reach) || !fits(STRENGTH, strength) || !fits(LAG, lag)) {
            return bad(BAD);
        }
        return added(now.arms, reach, strength, lag, 0);
    }

    public int hook(int length, int weight, int place) {
        if (!fits(LENGTH, length) || !fits(WEIGHT, weight) || !within(place, 0, length)) {
            return bad(BAD);
        }
        return added(now.hooks, length, weight, place, 0);
    }

    public int dart(int mass, int stiff, int tip, int tail) {
        if (!fits(MASS, mass) || !fits(STIFF, stiff) || !fits(TIP, tip) || !fits(TAIL, tail)) {
            return bad(BAD);
        }
        return added(now.darts, mass, stiff, tip, tail);
    }

    public int fling(int kind, int x, int arm, int hook, int dart, int angle, int what) {
        if (!fits(KIND, kind) || !fits(EXTRA, x) || !within(what, 0, 5) || !ready(arm, hook, dart, angle)) {
            return bad(-100000);
        }
        launch.told[KIND] = kind;
        launch.told[EXTRA] = x;
        launch.fly(0);
        return launch.outcome(what);
    }

    public int strikes(int arm, int hook, int dart, int angle, int d) {
        if (!within(d, 1, 20000) || !ready(arm, hook, dart, angle)) {
            return bad(BAD);
        }
        launch.fly(d);
        boolean high = within(launch.heightThere, 1, 180);
        return high && launch.off * d / 1000 <= 50 ? 1 : 0;
    }

    public int length(int arm, int hook, int dart, int angle) {
        if (!ready(arm, hook, dart, angle)) {
            return bad(BAD);
        }
        int place = launch.told[PLACE];
        int best = 0;
        int farthest = -1;
        for (int length = LEAST[LENGTH]; length <= MOST[LENGTH]; length++) {
            launch.told[LENGTH] = length;
            launch.told[PLACE] = Math.min(place, length);
            launch.fly(0);
            if (launch.range > farthest) {
                farthest = launch.range;
                best = length;
            }
        }
        return best;
    }

    public int straight(int arm, int hook, int dart, int what) {
        if (!within(what, 0, 1) || !ready(arm, hook, dart, 0)) {
            return bad(BAD);
        }
        int found = NONE;
        for (int stiff = LEAST[STIFF]; stiff <= MOST[STIFF]; stiff++) {
            launch.told[STIFF] = stiff;
            launch.leave();
            if (launch.off == 0 && (what == 1 || found == NONE)) {
                found = stiff;
            }
        }
        return found;
    }

    public int contest(int arm, int hook, int dart, int angle, int a, int b) {
        if (!fits(MASS, a) || !fits(MASS, b) || a > b || !ready(arm, hook, dart, angle)) {
            return bad(BAD);
        }
        int best = a;
        int farthest = -1;
        for (int mass = a; mass <= b; mass++) {
            launch.told[MASS] = mass;
            launch.fly(0);
            if (launch.range > farthest) {
                farthest = launch.range;
                best = mass;
            }
        }
        return best;
    }

    // ---- stories, people

    public int story(int story, int what, int v) {
        if (!within(story, 0, STORIES - 1) || !within(what, CHANCE, PRIOR) || !within(v, 0, what == CHANCE ? 20 : 9)) {
            return bad(BAD);
        }
        return now.stories.put(story, what, v);
    }

    public int tries(int n, int k) {
        if (!within(n, 0, 30) || !within(k, 0, n)) {
            return bad(BAD);
        }
        now.tries.put(0, 0, n);
        now.tries.put(0, 1, k);
        return 1;
    }

    public int odds(int story) {
        if (!within(story, 0, STORIES - 1)) {
            return bad(BAD);
        }
        if (!weights.weighAll(now)) {
            return no(NO);
        }
        weights.weigh(now, story);
        fraction.share(weights.one, weights.all);
        return 1;
    }

    public int parts() {
        if (!weights.weighAll(now)) {
            return no(NO);
        }
        return weights.heaviest;
    }

    public int person(int group, int far, boolean first) {
        if (!within(group, 0, 1) || !within(far, 0, 999)) {
            return bad(BAD);
        }
        return added(now.people, group, far, first ? 1 : 0, 0);
    }

    public int praise(int v) {
        if (!within(v, -99, 99)) {
            return bad(-100);
        }
        return now.praise.put(0, 0, v);
    }

    public int pairs() {
        int pairs = 0;
        int halves = 0;
        for (int one = 0; one < now.people.rows; one++) {
            for (int other = 0; other < now.people.rows; other++) {
                if (now.people.cell(one, GROUP) == 0 && now.people.cell(other, GROUP) == 1) {
                    pairs++;
                    halves += 1 + Integer.compare(now.putRight(other), now.putRight(one));
                }
            }
        }
        if (pairs == 0) {
            return no(NO);
        }
        fraction.set(halves, 2 * pairs);
        return 1;
    }

    public int span(int group, int what) {
        if (!within(group, 0, 1) || !within(what, 0, 2)) {
            return bad(-1000);
        }
        int people = 0;
        int sum = 0;
        int least = 0;
        int greatest = 0;
        for (int i = 0; i < now.people.rows; i++) {
            if (now.people.cell(i, GROUP) == group) {
                int far = now.putRight(i);
                least = people == 0 ? far : Math.min(least, far);
                greatest = people == 0 ? far : Math.max(greatest, far);
                sum += far;
                people++;
            }
        }
        if (people == 0) {
            return no(-2000);
        }
        if (what < 2) {
            return what == 0 ? least : greatest;
        }
        fraction.set(sum, people);
        return 1;
    }

    // ---- what was found

    public int thorn(int length, int land, int hollow, int worn) {
        if (!within(length, 1, 99) || !within(land, 0, LANDS - 1) || !within(hollow, 1, 30) || !within(worn, 0, 1)) {
            return bad(BAD);
        }
        return added(now.thorns, length, land, hollow, worn);
    }

    public int kinds(int what) {
        if (!within(what, 0, 1)) {
            return bad(BAD);
        }
        finds.divide(now.thorns);
        if (finds.cut == NONE || what == 0) {
            return finds.cut;
        }
        return finds.areTwoKinds ? 1 : 0;
    }

    public int land(int land) {
        if (!within(land, 0, LANDS - 1)) {
            return bad(BAD);
        }
        int thorns = 0;
        int sum = 0;
        for (int i = 0; i < now.thorns.rows; i++) {
            if (now.thorns.cell(i, LAND) == land) {
                thorns++;
                sum += now.thorns.cell(i, LONG);
            }
        }
        if (thorns == 0) {
            return no(NO);
        }
        fraction.set(sum, thorns);
        return 1;
    }

    public int butt(int thick) {
        if (!within(thick, 1, 30)) {
            return bad(BAD);
        }
        return added(now.butts, thick, 0, 0, 0);
    }

    public int play(int v) {
        if (!within(v, 0, 9)) {
            return bad(BAD);
        }
        return now.play.put(0, 0, v);
    }

    public int which(int butt, int thorn) {
        boolean asksAll = butt == NONE;
        boolean isThere = now.butts.has(butt) && now.thorns.has(thorn) && thorn < FIRST_THORNS;
        if (!asksAll && !isThere) {
            return bad(BAD);
        }
        int all = now.butts.rows == 0 ? 0 : finds.matches(now, NONE, NONE);
        if (all == 0) {
            return no(NO);
        }
        if (asksAll) {
            return all;
        }
        fraction.set(finds.matches(now, butt, thorn), all);
        return 1;
    }

    public int hands(int thorn, int r, int w) {
        if (!now.thorns.has(thorn) || !within(r, 0, 10) || !within(w, 0, 10)) {
            return bad(BAD);
        }
        boolean wornRight = now.thorns.cell(thorn, WORN) == 1;
        int rightOnes = r * (wornRight ? w : 10 - w);
        int leftOnes = (10 - r) * (wornRight ? 10 - w : w);
        if (rightOnes + leftOnes == 0) {
            return no(NO);
        }
        fraction.set(rightOnes, rightOnes + leftOnes);
        return 1;
    }

    public int known(int sort, int band, int n) {
        if (!within(sort, 0, SORTS - 1) || !within(band, 0, CLASSES - 1) || !within(n, 0, 99)) {
            return bad(BAD);
        }
        return now.sorts.put(sort, 1 + band, n);
    }

    public int prior(int sort, int v) {
        if (!within(sort, 0, SORTS - 1) || !within(v, 0, 9)) {
            return bad(BAD);
        }
        return now.sorts.put(sort, 0, v);
    }

    public int tip(int band, int sort) {
        if (!within(band, 0, CLASSES - 1) || !within(sort, 0, SORTS - 1)) {
            return bad(BAD);
        }
        long all = 0;
        for (int s = 0; s < SORTS; s++) {
            all += now.sortWeight(s, band);
        }
        if (all == 0) {
            return no(NO);
        }
        fraction.set(now.sortWeight(sort, band), all);
        return 1;
    }

    public int layer(int layer, int what, int n) {
        if (!within(layer, 0, LAYERS - 1) || !within(what, ARROWS, DARTS) || !within(n, 0, 99)) {
            return bad(BAD);
        }
        return now.layers.put(layer, what, n);
    }

    public int came(int what) {
        if (!within(what, 0, 2)) {
            return bad(BAD);
        }
        int first = 0;
        int last = 0;
        int fewest = now.misfits(0);
        for (int from = 1; from <= LAYERS; from++) {
            int misfits = now.misfits(from);
            if (misfits < fewest) {
                fewest = misfits;
                first = from;
            }
            if (misfits == fewest) {
                last = from;
            }
        }
        if (what == 2) {
            return fewest;
        }
        return what == 0 ? first : last;
    }

    // ---- plans

    public int type(long v, int n) {
        if (!within(n, 1, 8)) {
            return bad(BAD);
        }
        if (now.plan.rows + n > PLAN_BYTES) {
            return full();
        }
        for (int i = n - 1; i >= 0; i--) {
            now.plan.append((int) (v >> (8 * i)) & 255, 0, 0, 0);
        }
        return now.plan.rows;
    }

    public int clear() {
        int had = now.plan.rows;
        now.plan.rows = 0;
        return had;
    }

    public int fault() {
        return reader.read(now.plan);
    }

    public int plan(int i) {
        if (i < NONE) {
            return bad(-10);
        }
        if (reader.read(now.plan) != NONE) {
            return no(-20);
        }
        if (i == NONE) {
            return reader.throwsTold.rows;
        }
        if (!reader.throwsTold.has(i)) {
            return -5;
        }
        reader.throwsTold.copyRow(i, launch.told, 0);
        launch.fly(0);
        return launch.range;
    }

    // ---- what there is

    public int sign(int what) {
        if (!within(what, 0, 2)) {
            return bad(BAD);
        }
        if (what == 0) {
            return fraction.signum;
        }
        return what == 1 ? fraction.above.size : fraction.below.size;
    }

    public int limb(int which, int i) {
        if (!within(which, 0, 1) || i < 0) {
            return bad(BAD);
        }
        Natural asked = which == 0 ? fraction.above : fraction.below;
        return i < asked.size ? asked.digit(i) : NONE;
    }

    public int image(int i) {
        if (!within(i, 0, IMAGES - 1)) {
            return bad(BAD);
        }
        if (images[i] == null) {
            images[i] = new State();
        }
        images[i].copyFrom(now);
        return 1;
    }

    public int from(int i) {
        if (!within(i, 0, IMAGES - 1)) {
            return bad(BAD);
        }
        if (images[i] == null) {
            return no(NO);
        }
        now.copyFrom(images[i]);
        return 1;
    }

    public int status(int what) {
        if (!within(what, WERE_BAD, WERE_FULL)) {
            return bad(-1);
        }
        return refused[what];
    }

    public int count(int what) {
        if (!within(what, 0, 6)) {
            return bad(BAD);
        }
        return now.rowsOf(what);
    }

    public long digest() {
        long h = 613;
        for (int what = 0; what <= 6; what++) {
            h = mixed(h, now.rowsOf(what));
        }
        h = fraction.mixedInto(now.mixedInto(h));
        return h;
    }

    // ---- answers

    private int bad(int answer) {
        refused[WERE_BAD]++;
        return answer;
    }

    private int no(int answer) {
        refused[WERE_NO]++;
        return answer;
    }

    private int full() {
        refused[WERE_FULL]++;
        return FULL;
    }

    private int added(Table table, int a, int b, int c, int d) {
        return table.isFull() ? full() : table.append(a, b, c, d);
    }

    /** Readies a CLEAN throw in launch.told; false where a number is not as told. */
    private boolean ready(int arm, int hook, int dart, int angle) {
        if (!now.arms.has(arm) || !now.hooks.has(hook) || !now.darts.has(dart) || !fits(ANGLE, angle)) {
            return false;
        }
        now.arms.copyRow(arm, launch.told, REACH);
        now.hooks.copyRow(hook, launch.told, LENGTH);
        now.darts.copyRow(dart, launch.told, MASS);
        launch.told[KIND] = CLEAN;
        launch.told[EXTRA] = 0;
        launch.told[ANGLE] = angle;
        return true;
    }

    private static boolean within(int v, int least, int most) {
        return v >= least && v <= most;
    }

    private static boolean fits(int slot, int v) {
        return slot >= 0 && slot < SLOTS && within(v, LEAST[slot], MOST[slot]);
    }

    /** Every divisor here is above 0 by what was told; the test keeps that from being taken on trust. */
    private static int divided(int a, int by) {
        return by == 0 ? 0 : a / by;
    }

    private static long mixed(long h, long v) {
        return 31 * h + v;
    }

    /** Rows of equal width, kept in one array so that an image is a plain copy. */
    private static final class Table {
        final int width;
        final int[] cells;
        int rows;

        Table(int width, int[] cells, int rows) {
            this.width = width;
            this.cells = cells;
            this.rows = rows;
        }

        boolean isFull() {
            return (rows + 1) * width > cells.length;
        }

        boolean has(int row) {
            return row >= 0 && row < rows;
        }

        /** A new row of the first of these numbers, as many as a row has: its number. */
        int append(int a, int b, int c, int d) {
            int row = rows;
            rows++;
            put(row, 0, a);
            put(row, 1, b);
            put(row, 2, c);
            put(row, 3, d);
            return row;
        }

        void appendRow(int[] from) {
            int row = rows;
            rows++;
            for (int column = 0; column < width && column < from.length; column++) {
                put(row, column, from[column]);
            }
        }

        private int indexOf(int row, int column) {
            int at = row * width + column;
            boolean isCell = row >= 0 && row < rows && column >= 0 && column < width;
            return isCell && at < cells.length ? at : NONE;
        }

        int cell(int row, int column) {
            int at = indexOf(row, column);
            return at < 0 ? 0 : cells[at];
        }

        /** What stood there before. */
        int put(int row, int column, int v) {
            int at = indexOf(row, column);
            if (at < 0) {
                return 0;
            }
            int was = cells[at];
            cells[at] = v;
            return was;
        }

        void copyRow(int row, int[] to, int start) {
            for (int column = 0; column < width && start + column < to.length; column++) {
                to[start + column] = cell(row, column);
            }
        }

        void copyFrom(Table other) {
            System.arraycopy(other.cells, 0, cells, 0, Math.min(cells.length, other.cells.length));
            rows = other.rows;
        }

        long mixedInto(long h) {
            long result = h;
            for (int row = 0; row < rows; row++) {
                for (int column = 0; column < width; column++) {
                    result = mixed(result, cell(row, column));
                }
            }
            return result;
        }
    }

    /** All that an image keeps. */
    private static final class State {
        final Table arms = new Table(3, new int[12], 0);
        final Table hooks = new Table(3, new int[12], 0);
        final Table darts = new Table(4, new int[16], 0);
        final Table stories = new Table(2, new int[] {10, 1, 10, 1, 10, 1, 10, 1}, STORIES);
        final Table tries = new Table(2, new int[2], 1);
        final Table people = new Table(3, new int[48], 0);
        final Table praise = new Table(1, new int[1], 1);
        final Table thorns = new Table(4, new int[48], 0);
        final Table butts = new Table(1, new int[6], 0);
        final Table play = new Table(1, new int[] {1}, 1);
        // Of each sort its PRIOR, then the known ones by CLASSES.
        final Table sorts = new Table(1 + CLASSES,
                new int[] {1, 0, 0, 0, 0, 0, 0, 1, 0, 0, 0, 0, 0, 0, 1, 0, 0, 0, 0, 0, 0}, SORTS);
        final Table layers = new Table(2, new int[16], LAYERS);
        final Table plan = new Table(1, new int[PLAN_BYTES], 0);

        void copyFrom(State other) {
            arms.copyFrom(other.arms);
            hooks.copyFrom(other.hooks);
            darts.copyFrom(other.darts);
            stories.copyFrom(other.stories);
            tries.copyFrom(other.tries);
            people.copyFrom(other.people);
            praise.copyFrom(other.praise);
            thorns.copyFrom(other.thorns);
            butts.copyFrom(other.butts);
            play.copyFrom(other.play);
            sorts.copyFrom(other.sorts);
            layers.copyFrom(other.layers);
            plan.copyFrom(other.plan);
        }

        int rowsOf(int what) {
            switch (what) {
                case 0: return arms.rows;
                case 1: return hooks.rows;
                case 2: return darts.rows;
                case 3: return people.rows;
                case 4: return thorns.rows;
                case 5: return butts.rows;
                default: return plan.rows;
            }
        }

        long mixedInto(long h) {
            long thrown = darts.mixedInto(hooks.mixedInto(arms.mixedInto(h)));
            long told = praise.mixedInto(people.mixedInto(tries.mixedInto(stories.mixedInto(thrown))));
            long found = play.mixedInto(butts.mixedInto(thorns.mixedInto(told)));
            return plan.mixedInto(layers.mixedInto(sorts.mixedInto(found)));
        }

        int putRight(int person) {
            return people.cell(person, FAR) + people.cell(person, WAS_FIRST) * praise.cell(0, 0);
        }

        /** The weight of one SORT for a tip, over the three SORTS' common divisor. */
        long sortWeight(int sort, int band) {
            long weight = (sorts.cell(sort, 1 + band) + 1) * sorts.cell(sort, 0);
            for (int other = 0; other < SORTS; other++) {
                if (other != sort) {
                    weight *= knownOf(other) + CLASSES;
                }
            }
            return weight;
        }

        private int knownOf(int sort) {
            int sum = 0;
            for (int band = 0; band < CLASSES; band++) {
                sum += sorts.cell(sort, 1 + band);
            }
            return sum;
        }

        int misfits(int from) {
            int sum = 0;
            for (int layer = 0; layer < LAYERS; layer++) {
                sum += layers.cell(layer, layer < from ? ARROWS : DARTS);
            }
            return sum;
        }
    }

    /** One throw: told by a row, pushed, left, flown. By what can be told no product here reaches 2^30. */
    private static final class Launch {
        // By ANGLE: what of 100 goes on, what goes up.
        private static final int[] ALONG = {100, 98, 94, 87, 77, 64, 50};
        private static final int[] UPWARD = {0, 17, 34, 50, 64, 77, 87};
        private static final int ROUNDS_BOUND = 1000000;

        final int[] told = new int[SLOTS];
        private int length;
        private int weight;
        private int place;
        private int stiff;
        private int angle;
        private int pushes;
        int pace;
        int bend;
        int off;
        int range;
        int rise;
        int rounds;
        int heightThere;

        /** Lays the KIND over what was told. */
        private void shape() {
            int x = told[EXTRA];
            length = told[LENGTH];
            weight = told[WEIGHT];
            place = told[PLACE];
            stiff = told[STIFF];
            angle = told[ANGLE];
            pushes = 10 + told[LAG];
            switch (told[KIND]) {
                case EARLY:
                    pushes = Math.max(1, pushes - x);
                    break;
                case SOFT:
                    stiff = Math.max(1, stiff / 2);
                    break;
                case HARD:
                    stiff = Math.min(99, 2 * stiff);
                    break;
                case HIGH:
                    angle = Math.min(6, angle + 1);
                    break;
                case OVERARM:
                    pushes = Math.max(1, pushes - x);
                    length = 0;
                    weight = 0;
                    place = 0;
                    break;
                case WEIGHTED:
                    weight += x;
                    break;
                default:
                    break;
            }
        }

        /** PUSHING and LEAVING. */
        void leave() {
            shape();
            int load = told[MASS] + told[TIP] + length + divided(weight * place, length + 1);
            int push = divided(60 * told[STRENGTH], load);
            int hand = 0;
            int end = 0;
            bend = 0;
            for (int i = 0; i < pushes; i++) {
                hand += push;
                end = divided(hand * (told[REACH] + length), told[REACH]);
                bend += (divided(end * (10 + told[TIP]), 10 * stiff) - bend) / 3;
            }
            pace = end + bend * stiff / 50;
            off = bend < 10 ? 10 - bend : Math.max(0, bend - 30);
        }

        /** PUSHING, LEAVING and FLYING; heightThere: y behind the first ROUND that comes to the distance, or 0. */
        void fly(int distance) {
            leave();
            boolean isThere = false;
            int vx = angle >= 0 && angle < ALONG.length ? pace * ALONG[angle] / 100 : 0;
            int vy = angle >= 0 && angle < UPWARD.length ? pace * UPWARD[angle] / 100 : 0;
            int drag = told[TAIL] == 0 ? 4 + 3 * off : 4 + 2 * told[TAIL] + off;
            int x = 0;
            int y = 150;
            rise = y;
            rounds = 0;
            heightThere = 0;
            while (y > 0 && rounds < ROUNDS_BOUND) {
                rounds++;
                vx = Math.max(0, vx - vx * drag / 1000);
                vy -= 10;
                x += vx;
                y += vy;
                rise = Math.max(rise, y);
                if (x >= distance && !isThere) {
                    isThere = true;
                    heightThere = y;
                }
            }
            range = x;
        }

        int outcome(int what) {
            switch (what) {
                case 0: return range;
                case 1: return pace;
                case 2: return bend;
                case 3: return off;
                case 4: return rise;
                default: return rounds;
            }
        }
    }

    /** The weights of STORIES: their PRIOR times what their CHANCE makes of the TRIES. */
    private static final class Odds {
        final Natural one = new Natural();
        final Natural all = new Natural();
        private final Natural most = new Natural();
        int heaviest;

        /** Puts the weight of one STORY into one. */
        void weigh(State state, int story) {
            int chance = state.stories.cell(story, CHANCE);
            int n = state.tries.cell(0, 0);
            int k = state.tries.cell(0, 1);
            one.set(state.stories.cell(story, PRIOR));
            for (int i = 0; i < n; i++) {
                one.multiply(i < k ? chance : 20 - chance);
            }
        }

        /** Finds the sum of all and the heaviest; false where all are 0. */
        boolean weighAll(State state) {
            all.set(0);
            most.set(0);
            heaviest = 0;
            for (int story = 0; story < STORIES; story++) {
                weigh(state, story);
                all.add(one);
                if (one.isAbove(most)) {
                    most.copyFrom(one);
                    heaviest = story;
                }
            }
            return all.size > 0;
        }
    }

    /** What is asked of THORNS and BUTTS together. */
    private static final class Finds {
        private static final int SETS = 64;

        private final int[] sorted = new int[12];
        private final int[] ways = new int[SETS];
        int cut;
        boolean areTwoKinds;

        /** Looks for the cut between two kinds: NONE where all are of one length. */
        void divide(Table thorns) {
            int n = Math.min(thorns.rows, sorted.length);
            sort(thorns, n);
            int least = 0;
            cut = NONE;
            for (int i = 1; i < n; i++) {
                if (sorted[i - 1] != sorted[i]) {
                    int both = spread(0, i) + spread(i, n);
                    if (cut == NONE || both < least) {
                        least = both;
                        cut = sorted[i - 1];
                    }
                }
            }
            areTwoKinds = cut != NONE && 2 * least < spread(0, n);
        }

        private void sort(Table thorns, int n) {
            for (int i = 0; i < n; i++) {
                int v = thorns.cell(i, LONG);
                int at = i;
                while (at > 0 && sorted[at - 1] > v) {
                    sorted[at] = sorted[at - 1];
                    at--;
                }
                sorted[at] = v;
            }
        }

        private int spread(int start, int end) {
            int middle = start + (end - start - 1) / 2;
            int sum = 0;
            for (int i = start; i < end && middle < end; i++) {
                sum += Math.abs(sorted[i] - sorted[middle]);
            }
            return sum;
        }

        /** In how many rows the BUTTS go with unlike THORNS, where one BUTT (or NONE) has its THORN fixed. */
        int matches(State state, int fixedButt, int fixedThorn) {
            int all = 0;
            for (int taken = 0; taken < SETS; taken++) {
                ways[taken] = 0;
            }
            ways[0] = 1;
            // A set of n THORNS is what the first n BUTTS may have taken; the sets that it grows into are greater numbers.
            for (int taken = 0; taken < SETS; taken++) {
                int butt = Integer.bitCount(taken);
                if (butt == state.butts.rows) {
                    all += ways[taken];
                } else if (ways[taken] > 0) {
                    grow(state, taken, butt, butt == fixedButt ? fixedThorn : NONE);
                }
            }
            return all;
        }

        private void grow(State state, int taken, int butt, int fixedThorn) {
            for (int thorn = 0; thorn < FIRST_THORNS; thorn++) {
                int grown = taken | 1 << thorn;
                boolean isAsked = fixedThorn == NONE || fixedThorn == thorn;
                if (grown != taken && grown < SETS && isAsked && goTogether(state, butt, thorn)) {
                    ways[grown] += ways[taken];
                }
            }
        }

        private static boolean goTogether(State state, int butt, int thorn) {
            if (!state.butts.has(butt) || !state.thorns.has(thorn)) {
                return false;
            }
            int gap = Math.abs(state.butts.cell(butt, 0) - state.thorns.cell(thorn, HOLLOW));
            return gap <= state.play.cell(0, 0);
        }
    }

    /** Reads THE PLAN: its first FAULT, or its throws. */
    private static final class PlanReader {
        private static final int END = 0, WORD = 1, NUMBER = 2, STOP = 3, STRANGE = 4;
        private static final int ARM = 0, HOOK = 1, DART = 2, THROW = 3;
        // An ITEM's numbers stand in told from its own place here up to the next one's.
        private static final int[] SLOT = {REACH, LENGTH, MASS, KIND, SLOTS};
        private static final int ALL_THREE = 7;

        final Table throwsTold = new Table(SLOTS, new int[SLOTS * PLAN_THROWS], 0);
        private final int[] told = new int[SLOTS];
        private int itemsSeen;
        private int at;
        private int start;
        private int token;
        private int number;

        /** The place of the FAULT, or NONE: then throwsTold has a row for each throw. */
        int read(Table text) {
            throwsTold.rows = 0;
            itemsSeen = 0;
            at = 0;
            // Each ITEM takes a byte at least, so that there are never more of them than bytes.
            for (int items = 0; items <= text.rows; items++) {
                advance(text);
                if (token == END) {
                    return NONE;
                }
                int item = itemNamed(text);
                if (item == NONE || !mayStand(item) || !readNumbers(text, item)) {
                    return start;
                }
                advance(text);
                if (token != STOP) {
                    return start;
                }
                close(item);
            }
            return NONE;
        }

        private boolean mayStand(int item) {
            return item != THROW || itemsSeen == ALL_THREE && !throwsTold.isFull();
        }

        private boolean readNumbers(Table text, int item) {
            if (item < 0 || item + 1 >= SLOT.length) {
                return false;
            }
            for (int slot = SLOT[item]; slot < SLOT[item + 1]; slot++) {
                advance(text);
                if (token != NUMBER || !fits(slot, number) || slot == PLACE && number > told[LENGTH]) {
                    return false;
                }
                told[slot] = number;
            }
            return true;
        }

        private void close(int item) {
            if (item == THROW) {
                throwsTold.appendRow(told);
            } else {
                itemsSeen |= 1 << item;
            }
        }

        private int itemNamed(Table text) {
            if (token != WORD) {
                return NONE;
            }
            if (isWord(text, "arm")) {
                return ARM;
            }
            if (isWord(text, "hook")) {
                return HOOK;
            }
            if (isWord(text, "dart")) {
                return DART;
            }
            return isWord(text, "throw") ? THROW : NONE;
        }

        private boolean isWord(Table text, String word) {
            if (at - start != word.length()) {
                return false;
            }
            for (int i = 0; i < word.length(); i++) {
                if (text.cell(start + i, 0) != word.charAt(i)) {
                    return false;
                }
            }
            return true;
        }

        /** Reads the next TOKEN; behind the last one stands END, at the text's length. */
        private void advance(Table text) {
            while (at < text.rows && text.cell(at, 0) == ' ') {
                at++;
            }
            start = at;
            if (at >= text.rows) {
                token = END;
            } else if (isLetter(text.cell(at, 0))) {
                readLetters(text);
            } else if (isFigure(text.cell(at, 0))) {
                readFigures(text);
            } else {
                token = text.cell(at, 0) == ';' ? STOP : STRANGE;
                at++;
            }
        }

        private void readLetters(Table text) {
            while (at < text.rows && isLetter(text.cell(at, 0))) {
                at++;
            }
            token = WORD;
        }

        private void readFigures(Table text) {
            number = 0;
            while (at < text.rows && isFigure(text.cell(at, 0))) {
                // A longer run is no number, so that its value may stay as it is.
                if (at - start < 3) {
                    number = 10 * number + text.cell(at, 0) - '0';
                }
                at++;
            }
            token = at - start <= 3 ? NUMBER : STRANGE;
        }

        private static boolean isLetter(int sign) {
            return within(sign, 'a', 'z');
        }

        private static boolean isFigure(int sign) {
            return within(sign, '0', '9');
        }
    }

    /** A number from 0 on, by its digits to the base 2^30, the lowest first, the highest not 0. */
    private static final class Natural {
        private static final int BITS = 30;
        private static final long MASK = 1073741823L;

        // The sum of four weights, each up to 9 times 20 to the 30, is below 2^135.
        private final int[] limbs = new int[6];
        int size;

        int digit(int i) {
            return i >= 0 && i < size && i < limbs.length ? limbs[i] : 0;
        }

        void set(long v) {
            size = 0;
            pushUp(v);
        }

        /** Puts what is carried out of the highest digit ahead of it. */
        private void pushUp(long carry) {
            long left = carry;
            while (left > 0 && size < limbs.length) {
                limbs[size] = (int) (left & MASK);
                left >>= BITS;
                size++;
            }
        }

        void copyFrom(Natural other) {
            System.arraycopy(other.limbs, 0, limbs, 0, limbs.length);
            size = other.size;
        }

        void multiply(int by) {
            long carry = 0;
            for (int i = 0; i < size && i < limbs.length; i++) {
                carry += (long) limbs[i] * by;
                limbs[i] = (int) (carry & MASK);
                carry >>= BITS;
            }
            pushUp(carry);
            dropZeros();
        }

        void add(Natural other) {
            long carry = 0;
            int most = Math.max(size, other.size);
            for (int i = 0; i < most && i < limbs.length; i++) {
                carry += (long) digit(i) + other.digit(i);
                limbs[i] = (int) (carry & MASK);
                carry >>= BITS;
            }
            size = most;
            pushUp(carry);
        }

        int remainder(int by) {
            long rest = 0;
            for (int i = size - 1; i >= 0 && by > 0; i--) {
                rest = ((rest << BITS) + digit(i)) % by;
            }
            return (int) rest;
        }

        void divide(int by) {
            long rest = 0;
            for (int i = Math.min(size, limbs.length) - 1; i >= 0 && by > 0; i--) {
                rest = (rest << BITS) + limbs[i];
                limbs[i] = (int) (rest / by);
                rest %= by;
            }
            dropZeros();
        }

        private void dropZeros() {
            while (size > 0 && digit(size - 1) == 0) {
                size--;
            }
        }

        boolean isAbove(Natural other) {
            for (int i = Math.max(size, other.size) - 1; i >= 0; i--) {
                if (digit(i) != other.digit(i)) {
                    return digit(i) > other.digit(i);
                }
            }
            return false;
        }
    }

    /** THE FRACTION: 0 by 1 at first, always in lowest terms. */
    private static final class Fraction {
        // PRIORS, CHANCES and what these leave of 20 are products of these.
        private static final int[] PRIMES = {2, 3, 5, 7, 11, 13, 17, 19};
        private static final int DIVISIONS_BOUND = 1000;

        int signum;
        final Natural above = new Natural();
        final Natural below = new Natural();

        Fraction() {
            below.set(1);
        }

        /** A number by another one above 0. */
        void set(long number, long by) {
            long common = commonDivisor(Math.abs(number), by);
            signum = Long.compare(number, 0);
            above.set(common == 0 ? 0 : Math.abs(number) / common);
            below.set(common == 0 ? 1 : by / common);
        }

        private static long commonDivisor(long a, long b) {
            long one = a;
            long other = b;
            for (int i = 0; i < DIVISIONS_BOUND && other != 0; i++) {
                long rest = one % other;
                one = other;
                other = rest;
            }
            return one;
        }

        /** The share of one STORY's weight in that of all, which is above 0. */
        void share(Natural weight, Natural all) {
            if (weight.size == 0) {
                set(0, 1);
                return;
            }
            signum = 1;
            above.copyFrom(weight);
            below.copyFrom(all);
            // What divides both divides the one weight, so that no other prime can be common.
            for (int prime : PRIMES) {
                for (int i = 0; i < DIVISIONS_BOUND && areDividedBy(prime); i++) {
                    above.divide(prime);
                    below.divide(prime);
                }
            }
        }

        private boolean areDividedBy(int prime) {
            return above.remainder(prime) == 0 && below.remainder(prime) == 0;
        }

        long mixedInto(long h) {
            long result = mixed(mixed(mixed(h, signum), above.size), below.size);
            for (int i = 0; i < above.size; i++) {
                result = mixed(result, above.digit(i));
            }
            for (int i = 0; i < below.size; i++) {
                result = mixed(result, below.digit(i));
            }
            return result;
        }
    }
}
