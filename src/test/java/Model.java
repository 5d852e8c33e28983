import java.math.BigInteger;
import java.util.ArrayList;
import java.util.List;
import java.util.regex.Matcher;
import java.util.regex.Pattern;

/** The document written a second time, as plainly as the Java library allows: ModelTest compares the class with it. */
final class Model {
    private static final int[][] ANGLES = {
        {100, 0}, {98, 17}, {94, 34}, {87, 50}, {77, 64}, {64, 77}, {50, 87}};
    private static final Pattern TOKEN = Pattern.compile(" *([a-z]+|[0-9]+|;|[^ ]|$)", Pattern.DOTALL);

    private List<List<Integer>> arms = new ArrayList<>();
    private List<List<Integer>> hooks = new ArrayList<>();
    private List<List<Integer>> darts = new ArrayList<>();
    private List<List<Integer>> people = new ArrayList<>();
    private List<List<Integer>> thorns = new ArrayList<>();
    private List<Integer> butts = new ArrayList<>();
    private int[][] stories = {{10, 1}, {10, 1}, {10, 1}, {10, 1}};
    private int tried = 0;
    private int better = 0;
    private int praise = 0;
    private int play = 1;
    private int[] priors = {1, 1, 1};
    private int[][] known = new int[3][6];
    private int[][] layers = new int[8][2];
    private String text = "";

    private BigInteger above = BigInteger.ZERO;
    private BigInteger below = BigInteger.ONE;
    private final int[] status = new int[3];
    private final Model[] images = new Model[2];

    /** The names of the calls, in the order in which answer() knows them. */
    static final String[] CALLS = {
        "arm", "hook", "dart", "fling", "strikes", "length", "straight", "contest", "story", "tries", "odds", "parts",
        "person", "praise", "pairs", "span", "thorn", "kinds", "land", "butt", "play", "which", "hands", "known",
        "prior", "tip", "layer", "came", "type", "clear", "fault", "plan", "sign", "limb", "image", "from", "status",
        "count", "digest"};

    long answer(String call, long[] a) {
        int[] v = new int[a.length];
        for (int i = 0; i < a.length; i++) {
            v[i] = (int) a[i];
        }
        switch (call) {
            case "arm": return put(arms, 4, ok(v[0], 20, 90) && ok(v[1], 1, 99) && ok(v[2], 0, 9), v);
            case "hook": return put(hooks, 4, ok(v[0], 0, 99) && ok(v[1], 0, 99) && ok(v[2], 0, v[0]), v);
            case "dart": return put(darts, 4,
                    ok(v[0], 20, 300) && ok(v[1], 1, 99) && ok(v[2], 0, 60) && ok(v[3], 0, 9), v);
            case "fling": return fling(v);
            case "strikes": return strikes(v);
            case "length": return length(v);
            case "straight": return straight(v);
            case "contest": return contest(v);
            case "story": return set(ok(v[0], 0, 3) && ok(v[1], 0, 1) && ok(v[2], 0, v[1] == 0 ? 20 : 9),
                    stories, v[0], v[1], v[2]);
            case "tries": return tries(v);
            case "odds": return odds(v[0]);
            case "parts": return parts();
            case "person": return put(people, 16, ok(v[0], 0, 1) && ok(v[1], 0, 999), v);
            case "praise": return praise(v[0]);
            case "pairs": return pairs();
            case "span": return span(v);
            case "thorn": return put(thorns, 12,
                    ok(v[0], 1, 99) && ok(v[1], 0, 3) && ok(v[2], 1, 30) && ok(v[3], 0, 1), v);
            case "kinds": return kinds(v[0]);
            case "land": return land(v[0]);
            case "butt": return butt(v[0]);
            case "play": return play(v[0]);
            case "which": return which(v);
            case "hands": return hands(v);
            case "known": return set(ok(v[0], 0, 2) && ok(v[1], 0, 5) && ok(v[2], 0, 99), known, v[0], v[1], v[2]);
            case "prior": return prior(v);
            case "tip": return tip(v);
            case "layer": return set(ok(v[0], 0, 7) && ok(v[1], 0, 1) && ok(v[2], 0, 99), layers, v[0], v[1], v[2]);
            case "came": return came(v[0]);
            case "type": return type(a[0], v[1]);
            case "clear": return clear();
            case "fault": return readPlan(new ArrayList<>());
            case "plan": return plan(v[0]);
            case "sign": return ok(v[0], 0, 2) ? sign(v[0]) : refuse(0, -2);
            case "limb": return ok(v[0], 0, 1) && v[1] >= 0 ? limb(v[0] == 0 ? above : below, v[1]) : refuse(0, -2);
            case "image": return image(v[0]);
            case "from": return from(v[0]);
            case "status": return ok(v[0], 0, 2) ? status[v[0]] : refuse(0, -1);
            case "count": return ok(v[0], 0, 6) ? count(v[0]) : refuse(0, -2);
            case "digest": return digest();
            default: throw new IllegalArgumentException(call);
        }
    }

    private static boolean ok(int v, int least, int most) {
        return least <= v && v <= most;
    }

    private int refuse(int which, int answer) {
        status[which]++;
        return answer;
    }

    private int put(List<List<Integer>> rows, int most, boolean isTold, int[] v) {
        if (!isTold) {
            return refuse(0, -2);
        }
        if (rows.size() == most) {
            return refuse(2, -4);
        }
        List<Integer> row = new ArrayList<>();
        for (int one : v) {
            row.add(one);
        }
        rows.add(row);
        return rows.size() - 1;
    }

    private int set(boolean isTold, int[][] rows, int i, int j, int v) {
        if (!isTold) {
            return refuse(0, -2);
        }
        int was = rows[i][j];
        rows[i][j] = v;
        return was;
    }

    // ---- throws

    /** RANGE, PACE, BEND, OFF, RISE, ROUNDS, and whether it strikes at d. */
    private static long[] thrown(int kind, int x, int[] arm, int[] hook, int[] dart, int angle, int d) {
        boolean early = kind == 1 || kind == 5;
        boolean soft = kind == 2;
        long rounds = Math.max(1, 10 + arm[2] - (early ? x : 0));
        long length = kind == 5 ? 0 : hook[0];
        long weight = kind == 5 ? 0 : hook[1] + (kind == 6 ? x : 0);
        long place = kind == 5 ? 0 : hook[2];
        long stiff = soft ? Math.max(1, dart[1] / 2) : kind == 3 ? Math.min(99, dart[1] * 2) : dart[1];
        int up = kind == 4 ? Math.min(6, angle + 1) : angle;

        long load = dart[0] + dart[2] + length + weight * place / (length + 1);
        long hand = 0;
        long end = 0;
        long bend = 0;
        for (long i = 0; i < rounds; i++) {
            hand = hand + 60L * arm[1] / load;
            end = hand * (arm[0] + length) / arm[0];
            bend = bend + (end * (10 + dart[2]) / (10 * stiff) - bend) / 3;
        }
        long pace = end + bend * stiff / 50;
        long off = 0;
        if (bend < 10) {
            off = 10 - bend;
        }
        if (bend > 30) {
            off = bend - 30;
        }
        long vx = pace * ANGLES[up][0] / 100;
        long vy = pace * ANGLES[up][1] / 100;
        long drag = dart[3] == 0 ? 4 + 3 * off : 4 + 2 * dart[3] + off;
        List<long[]> places = new ArrayList<>();
        long px = 0;
        long py = 150;
        long rise = 150;
        while (py > 0) {
            vx = vx - vx * drag / 1000;
            if (vx < 0) {
                vx = 0;
            }
            vy = vy - 10;
            px = px + vx;
            py = py + vy;
            rise = Math.max(rise, py);
            places.add(new long[] {px, py});
        }
        long strikes = 0;
        for (long[] one : places) {
            if (one[0] >= d) {
                strikes = one[1] > 0 && one[1] <= 180 && off * d / 1000 <= 50 ? 1 : 0;
                break;
            }
        }
        return new long[] {px, pace, bend, off, rise, places.size(), strikes};
    }

    private static int[] row(List<List<Integer>> rows, int i) {
        return rows.get(i).stream().mapToInt(one -> one).toArray();
    }

    private boolean there(int arm, int hook, int dart, int angle) {
        return ok(arm, 0, arms.size() - 1) && ok(hook, 0, hooks.size() - 1) && ok(dart, 0, darts.size() - 1)
                && ok(angle, 0, 6);
    }

    private long fling(int[] v) {
        if (!ok(v[0], 0, 6) || !ok(v[1], 0, 19) || !there(v[2], v[3], v[4], v[5]) || !ok(v[6], 0, 5)) {
            return refuse(0, -100000);
        }
        return thrown(v[0], v[1], row(arms, v[2]), row(hooks, v[3]), row(darts, v[4]), v[5], 1)[v[6]];
    }

    private long strikes(int[] v) {
        if (!there(v[0], v[1], v[2], v[3]) || !ok(v[4], 1, 20000)) {
            return refuse(0, -2);
        }
        return thrown(0, 0, row(arms, v[0]), row(hooks, v[1]), row(darts, v[2]), v[3], v[4])[6];
    }

    private long length(int[] v) {
        if (!there(v[0], v[1], v[2], v[3])) {
            return refuse(0, -2);
        }
        int[] hook = row(hooks, v[1]);
        List<Long> ranges = new ArrayList<>();
        for (int i = 0; i <= 99; i++) {
            int[] other = {i, hook[1], hook[2] > i ? i : hook[2]};
            ranges.add(thrown(0, 0, row(arms, v[0]), other, row(darts, v[2]), v[3], 1)[0]);
        }
        return ranges.indexOf(java.util.Collections.max(ranges));
    }

    private long straight(int[] v) {
        if (!there(v[0], v[1], v[2], 0) || !ok(v[3], 0, 1)) {
            return refuse(0, -2);
        }
        List<Integer> found = new ArrayList<>();
        int[] dart = row(darts, v[2]);
        for (int i = 1; i <= 99; i++) {
            dart[1] = i;
            if (thrown(0, 0, row(arms, v[0]), row(hooks, v[1]), dart, 0, 1)[3] == 0) {
                found.add(i);
            }
        }
        return found.isEmpty() ? -1 : found.get(v[3] == 0 ? 0 : found.size() - 1);
    }

    private long contest(int[] v) {
        if (!there(v[0], v[1], v[2], v[3]) || v[4] < 20 || v[5] > 300 || v[4] > v[5]) {
            return refuse(0, -2);
        }
        List<Long> ranges = new ArrayList<>();
        int[] dart = row(darts, v[2]);
        for (int i = v[4]; i <= v[5]; i++) {
            dart[0] = i;
            ranges.add(thrown(0, 0, row(arms, v[0]), row(hooks, v[1]), dart, v[3], 1)[0]);
        }
        return v[4] + ranges.indexOf(java.util.Collections.max(ranges));
    }

    // ---- stories, people

    private int tries(int[] v) {
        if (!ok(v[0], 0, 30) || !ok(v[1], 0, v[0])) {
            return refuse(0, -2);
        }
        tried = v[0];
        better = v[1];
        return 1;
    }

    private BigInteger weight(int story) {
        return BigInteger.valueOf(stories[story][1]).multiply(BigInteger.valueOf(stories[story][0]).pow(better))
                .multiply(BigInteger.valueOf(20 - stories[story][0]).pow(tried - better));
    }

    private BigInteger allWeights() {
        return weight(0).add(weight(1)).add(weight(2)).add(weight(3));
    }

    private int share(BigInteger one, BigInteger all) {
        BigInteger common = one.gcd(all);
        above = one.divide(common);
        below = all.divide(common);
        return 1;
    }

    private int share(long one, long all) {
        return share(BigInteger.valueOf(one), BigInteger.valueOf(all));
    }

    private int odds(int story) {
        if (!ok(story, 0, 3)) {
            return refuse(0, -2);
        }
        return allWeights().signum() == 0 ? refuse(1, -3) : share(weight(story), allWeights());
    }

    private int parts() {
        if (allWeights().signum() == 0) {
            return refuse(1, -3);
        }
        for (int i = 0; ; i++) {
            boolean isMost = true;
            for (int j = 0; j < 4; j++) {
                isMost &= weight(i).compareTo(weight(j)) >= 0;
            }
            if (isMost) {
                return i;
            }
        }
    }

    private int praise(int v) {
        if (!ok(v, -99, 99)) {
            return refuse(0, -100);
        }
        int was = praise;
        praise = v;
        return was;
    }

    private List<Integer> rights(int group) {
        List<Integer> found = new ArrayList<>();
        for (List<Integer> one : people) {
            if (one.get(0) == group) {
                found.add(one.get(1) + (one.get(2) == 1 ? praise : 0));
            }
        }
        return found;
    }

    private int pairs() {
        if (rights(0).isEmpty() || rights(1).isEmpty()) {
            return refuse(1, -3);
        }
        int halves = 0;
        for (int one : rights(0)) {
            for (int other : rights(1)) {
                halves += other > one ? 2 : other == one ? 1 : 0;
            }
        }
        return share(halves, 2L * rights(0).size() * rights(1).size());
    }

    private int span(int[] v) {
        if (!ok(v[0], 0, 1) || !ok(v[1], 0, 2)) {
            return refuse(0, -1000);
        }
        List<Integer> rights = rights(v[0]);
        if (rights.isEmpty()) {
            return refuse(1, -2000);
        }
        if (v[1] == 2) {
            return share(rights.stream().mapToInt(one -> one).sum(), rights.size());
        }
        return v[1] == 0 ? java.util.Collections.min(rights) : java.util.Collections.max(rights);
    }

    // ---- what was found

    private static int spread(List<Integer> some) {
        List<Integer> sorted = new ArrayList<>(some);
        java.util.Collections.sort(sorted);
        int middle = sorted.get((sorted.size() - 1) / 2);
        return sorted.stream().mapToInt(one -> Math.abs(one - middle)).sum();
    }

    private int kinds(int what) {
        if (!ok(what, 0, 1)) {
            return refuse(0, -2);
        }
        int best = -1;
        int least = 0;
        List<Integer> all = new ArrayList<>();
        thorns.forEach(one -> all.add(one.get(0)));
        for (int c = 0; c <= 100; c++) {
            List<Integer> low = new ArrayList<>();
            List<Integer> high = new ArrayList<>();
            for (int one : all) {
                (one <= c ? low : high).add(one);
            }
            if (!low.isEmpty() && !high.isEmpty() && (best < 0 || spread(low) + spread(high) < least)) {
                best = c;
                least = spread(low) + spread(high);
            }
        }
        if (best < 0 || what == 0) {
            return best;
        }
        return 2 * least < spread(all) ? 1 : 0;
    }

    private int land(int land) {
        if (!ok(land, 0, 3)) {
            return refuse(0, -2);
        }
        List<Integer> lengths = new ArrayList<>();
        thorns.stream().filter(one -> one.get(1) == land).forEach(one -> lengths.add(one.get(0)));
        return lengths.isEmpty() ? refuse(1, -3)
                : share(lengths.stream().mapToInt(one -> one).sum(), lengths.size());
    }

    private int butt(int thick) {
        if (!ok(thick, 1, 30)) {
            return refuse(0, -2);
        }
        if (butts.size() == 6) {
            return refuse(2, -4);
        }
        butts.add(thick);
        return butts.size() - 1;
    }

    private int play(int v) {
        if (!ok(v, 0, 9)) {
            return refuse(0, -2);
        }
        int was = play;
        play = v;
        return was;
    }

    /** All rows, each a list of the THORNS of the BUTTS. */
    private void rows(List<Integer> ahead, List<List<Integer>> found) {
        if (ahead.size() == butts.size()) {
            found.add(new ArrayList<>(ahead));
            return;
        }
        for (int thorn = 0; thorn < Math.min(6, thorns.size()); thorn++) {
            int gap = Math.abs(butts.get(ahead.size()) - thorns.get(thorn).get(2));
            if (!ahead.contains(thorn) && gap <= play) {
                ahead.add(thorn);
                rows(ahead, found);
                ahead.remove(ahead.size() - 1);
            }
        }
    }

    private int which(int[] v) {
        if (v[0] != -1 && (!ok(v[0], 0, butts.size() - 1) || !ok(v[1], 0, Math.min(5, thorns.size() - 1)))) {
            return refuse(0, -2);
        }
        List<List<Integer>> found = new ArrayList<>();
        rows(new ArrayList<>(), found);
        if (butts.isEmpty() || found.isEmpty()) {
            return refuse(1, -3);
        }
        if (v[0] == -1) {
            return found.size();
        }
        return share(found.stream().filter(one -> one.get(v[0]) == v[1]).count(), found.size());
    }

    private int hands(int[] v) {
        if (!ok(v[0], 0, thorns.size() - 1) || !ok(v[1], 0, 10) || !ok(v[2], 0, 10)) {
            return refuse(0, -2);
        }
        boolean isRightWorn = thorns.get(v[0]).get(3) == 1;
        int byRight = v[1] * (isRightWorn ? v[2] : 10 - v[2]);
        int byLeft = (10 - v[1]) * (isRightWorn ? 10 - v[2] : v[2]);
        return byRight + byLeft == 0 ? refuse(1, -3) : share(byRight, byRight + byLeft);
    }

    private int prior(int[] v) {
        if (!ok(v[0], 0, 2) || !ok(v[1], 0, 9)) {
            return refuse(0, -2);
        }
        int was = priors[v[0]];
        priors[v[0]] = v[1];
        return was;
    }

    private int tip(int[] v) {
        if (!ok(v[0], 0, 5) || !ok(v[1], 0, 2)) {
            return refuse(0, -2);
        }
        BigInteger[] ups = new BigInteger[3];
        BigInteger[] downs = new BigInteger[3];
        BigInteger common = BigInteger.ONE;
        for (int s = 0; s < 3; s++) {
            ups[s] = BigInteger.valueOf((known[s][v[0]] + 1L) * priors[s]);
            downs[s] = BigInteger.valueOf(java.util.Arrays.stream(known[s]).sum() + 6);
            common = common.multiply(downs[s]);
        }
        BigInteger all = BigInteger.ZERO;
        for (int s = 0; s < 3; s++) {
            ups[s] = ups[s].multiply(common.divide(downs[s]));
            all = all.add(ups[s]);
        }
        return all.signum() == 0 ? refuse(1, -3) : share(ups[v[1]], all);
    }

    private int came(int what) {
        if (!ok(what, 0, 2)) {
            return refuse(0, -2);
        }
        List<Integer> misfits = new ArrayList<>();
        for (int from = 0; from <= 8; from++) {
            int sum = 0;
            for (int i = 0; i < from; i++) {
                sum += layers[i][0];
            }
            for (int i = from; i < 8; i++) {
                sum += layers[i][1];
            }
            misfits.add(sum);
        }
        int fewest = java.util.Collections.min(misfits);
        return what == 0 ? misfits.indexOf(fewest) : what == 1 ? misfits.lastIndexOf(fewest) : fewest;
    }

    // ---- plans

    private int type(long v, int n) {
        if (!ok(n, 1, 8)) {
            return refuse(0, -2);
        }
        if (text.length() + n > 200) {
            return refuse(2, -4);
        }
        StringBuilder more = new StringBuilder();
        for (int i = 0; i < n; i++) {
            more.insert(0, (char) (v >>> (8 * i) & 255));
        }
        text += more;
        return text.length();
    }

    private int clear() {
        int had = text.length();
        text = "";
        return had;
    }

    /** Adds the RANGE of each throw; the place of the FAULT, or -1. */
    private int readPlan(List<Long> ranges) {
        Matcher tokens = TOKEN.matcher(text);
        int[] arm = null;
        int[] hook = null;
        int[] dart = null;
        while (true) {
            tokens.lookingAt();
            String word = tokens.group(1);
            if (word.isEmpty()) {
                return -1;
            }
            int place = tokens.start(1);
            int[][] limits;
            switch (word) {
                case "arm": limits = new int[][] {{20, 90}, {1, 99}, {0, 9}}; break;
                case "hook": limits = new int[][] {{0, 99}, {0, 99}, {0, -1}}; break;
                case "dart": limits = new int[][] {{20, 300}, {1, 99}, {0, 60}, {0, 9}}; break;
                case "throw": limits = new int[][] {{0, 6}, {0, 19}, {0, 6}}; break;
                default: return place;
            }
            if (word.equals("throw") && (arm == null || hook == null || dart == null || ranges.size() == 12)) {
                return place;
            }
            tokens.region(tokens.end(), text.length());
            int[] told = new int[limits.length];
            for (int i = 0; i < limits.length; i++) {
                tokens.lookingAt();
                String number = tokens.group(1);
                int most = limits[i][1] < 0 ? told[0] : limits[i][1];
                if (!number.matches("[0-9]{1,3}") || !ok(Integer.parseInt(number), limits[i][0], most)) {
                    return tokens.start(1);
                }
                told[i] = Integer.parseInt(number);
                tokens.region(tokens.end(), text.length());
            }
            tokens.lookingAt();
            if (!tokens.group(1).equals(";")) {
                return tokens.start(1);
            }
            tokens.region(tokens.end(), text.length());
            switch (word) {
                case "arm": arm = told; break;
                case "hook": hook = told; break;
                case "dart": dart = told; break;
                default: ranges.add(thrown(told[0], told[1], arm, hook, dart, told[2], 1)[0]); break;
            }
        }
    }

    private long plan(int i) {
        if (i < -1) {
            return refuse(0, -10);
        }
        List<Long> ranges = new ArrayList<>();
        if (readPlan(ranges) >= 0) {
            return refuse(1, -20);
        }
        return i == -1 ? ranges.size() : i < ranges.size() ? ranges.get(i) : -5;
    }

    // ---- what there is

    private static List<Integer> limbs(BigInteger number) {
        List<Integer> found = new ArrayList<>();
        BigInteger base = BigInteger.valueOf(1073741824L);
        for (BigInteger left = number.abs(); left.signum() > 0; left = left.divide(base)) {
            found.add(left.mod(base).intValueExact());
        }
        return found;
    }

    private int sign(int what) {
        return what == 0 ? above.signum() : limbs(what == 1 ? above : below).size();
    }

    private int limb(BigInteger number, int i) {
        return i < limbs(number).size() ? limbs(number).get(i) : -1;
    }

    private void take(Model other) {
        arms = new ArrayList<>(other.arms);
        hooks = new ArrayList<>(other.hooks);
        darts = new ArrayList<>(other.darts);
        people = new ArrayList<>(other.people);
        thorns = new ArrayList<>(other.thorns);
        butts = new ArrayList<>(other.butts);
        stories = copy(other.stories);
        tried = other.tried;
        better = other.better;
        praise = other.praise;
        play = other.play;
        priors = other.priors.clone();
        known = copy(other.known);
        layers = copy(other.layers);
        text = other.text;
    }

    private static int[][] copy(int[][] rows) {
        int[][] other = new int[rows.length][];
        for (int i = 0; i < rows.length; i++) {
            other[i] = rows[i].clone();
        }
        return other;
    }

    private int image(int i) {
        if (!ok(i, 0, 1)) {
            return refuse(0, -2);
        }
        images[i] = new Model();
        images[i].take(this);
        return 1;
    }

    private int from(int i) {
        if (!ok(i, 0, 1)) {
            return refuse(0, -2);
        }
        if (images[i] == null) {
            return refuse(1, -3);
        }
        take(images[i]);
        return 1;
    }

    private int count(int what) {
        int[] counts = {
            arms.size(), hooks.size(), darts.size(), people.size(), thorns.size(), butts.size(), text.length()};
        return counts[what];
    }

    private long digest() {
        List<Integer> v = new ArrayList<>();
        for (int i = 0; i <= 6; i++) {
            v.add(count(i));
        }
        arms.forEach(v::addAll);
        hooks.forEach(v::addAll);
        darts.forEach(v::addAll);
        addAll(v, stories);
        v.add(tried);
        v.add(better);
        people.forEach(v::addAll);
        v.add(praise);
        thorns.forEach(v::addAll);
        v.addAll(butts);
        v.add(play);
        for (int s = 0; s < 3; s++) {
            v.add(priors[s]);
            addAll(v, new int[][] {known[s]});
        }
        addAll(v, layers);
        text.chars().forEach(v::add);
        v.add(sign(0));
        v.add(sign(1));
        v.add(sign(2));
        v.addAll(limbs(above));
        v.addAll(limbs(below));
        long h = 613;
        for (int one : v) {
            h = 31 * h + one;
        }
        return h;
    }

    private static void addAll(List<Integer> v, int[][] rows) {
        for (int[] row : rows) {
            for (int one : row) {
                v.add(one);
            }
        }
    }
}
