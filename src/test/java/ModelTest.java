import java.util.ArrayList;
import java.util.Arrays;
import java.util.List;
import java.util.Random;

/**
 * Runs of calls by chance (of fixed seeds), right and wrong ones, each answer held against
 * {@link Model}, which takes the document's words by the longest way.
 */
public final class ModelTest {
    private static final Check CHECK = new Check();
    private static final int RUNS = 600;
    private static final int CALLS = 512;
    private static final int[] WILD = {Integer.MIN_VALUE, Integer.MAX_VALUE, -1, -2, 100, 1 << 20,
        31, 32, 33, 64, 255, 256};

    private final Random random;
    private final OwedFurrows object = new OwedFurrows();
    private final Model model = new Model();
    private final String name;
    private int calls = 0;

    private ModelTest(int seed) {
        random = new Random(seed);
        name = "run " + seed;
    }

    public static void main(String[] args) {
        for (int seed = 0; seed < RUNS; seed++) {
            new ModelTest(seed).goOn();
        }
        CHECK.end();
    }

    private void goOn() {
        if (random.nextInt(10) > 0) {
            tellCountry();
        }
        boolean withBread = random.nextBoolean();
        while (calls < CALLS) {
            int lot = random.nextInt(100);
            if (lot < (withBread ? 50 : 30)) {
                act();
            } else if (lot == 99 && random.nextInt(8) == 0) {
                tellCountry();
            } else {
                ask();
            }
        }
    }

    private void due(String call, long got, long want) {
        calls++;
        CHECK.due(name + ", call " + calls + ": " + call, got, want);
    }

    private int upTo(int most) {
        return random.nextInt(40) == 0 ? WILD[random.nextInt(WILD.length)]
                : random.nextInt(most + 1);
    }

    private void write(int letter) {
        due("write(" + letter + ")", object.write(letter), model.write(letter));
    }

    private void tellCountry() {
        due("wipe()", object.wipe(), model.wipe());
        StringBuilder text = new StringBuilder("F");
        int fields = random.nextInt(5);
        int eaters = random.nextInt(6);
        while (fields + eaters > 0) {
            boolean isField = random.nextInt(fields + eaters) < fields;
            fields -= isField ? 1 : 0;
            eaters -= isField ? 0 : 1;
            text.append(isField ? "G" + random.nextInt(10) + (1 + random.nextInt(9))
                    + (1 + random.nextInt(random.nextBoolean() ? 3 : 9))
                    : "E" + random.nextInt(10) + random.nextInt(10) + random.nextInt(4));
        }
        if (random.nextInt(5) == 0) {
            text.setCharAt(random.nextInt(text.length()), "FGE0123456789X/:".charAt(
                    random.nextInt(16)));
        }
        for (int i = 0; i < text.length(); i++) {
            write(text.charAt(i));
        }
        if (random.nextInt(8) == 0) {
            write(random.nextInt(3) == 0 ? 'G' : upTo(255));
        }
        due("fault()", object.fault(), model.fault());
        due("country()", object.country(), model.country());
    }

    private void act() {
        int e = upTo(4);
        int f = upTo(3);
        int g = upTo(3);
        switch (random.nextInt(12)) {
            case 0 -> due("march()", object.march(), model.march());
            case 1 -> due("harvest()", object.harvest(), model.harvest());
            case 2 -> due("undo()", object.undo(), model.undo());
            case 3, 4, 5 -> due("cake(" + e + ", " + f + ", " + g + ")", object.cake(e, f, g),
                    model.cake(e, f, g));
            case 6 -> slot();
            default -> due("eat(" + e + ", " + f + ")", object.eat(e, f), model.eat(e, f));
        }
    }

    private void slot() {
        int slot = upTo(1);
        if (random.nextBoolean()) {
            due("keep(" + slot + ")", object.keep(slot), model.keep(slot));
        } else {
            due("again(" + slot + ")", object.again(slot), model.again(slot));
        }
    }

    private void ask() {
        int e = upTo(4);
        int d = upTo(4);
        int f = upTo(3);
        boolean upper = random.nextBoolean();
        switch (random.nextInt(15)) {
            case 0 -> {
                int what = upTo(11);
                due("about(" + what + ")", object.about(what), model.about(what));
            }
            case 1 -> {
                int what = upTo(6);
                due("field(" + f + ", " + what + ")", object.field(f, what),
                        model.field(f, what));
            }
            case 2, 3 -> {
                int what = upTo(6);
                due("eater(" + e + ", " + what + ")", object.eater(e, what),
                        model.eater(e, what));
            }
            case 4 -> due("owes(" + e + ", " + f + ")", object.owes(e, f), model.owes(e, f));
            case 5 -> {
                int n = upTo(10);
                due("ahead(" + f + ", " + n + ")", object.ahead(f, n), model.ahead(f, n));
            }
            case 6 -> due("wants(" + f + ")", object.wants(f), model.wants(f));
            case 7 -> due("rid(" + e + ")", object.rid(e), model.rid(e));
            case 8 -> judge();
            case 9 -> due("share(" + e + ", " + upper + ")", object.share(e, upper),
                    model.share(e, upper));
            case 10 -> tidings();
            case 11, 12 -> {
                int what = upTo(2);
                due("rests(" + e + ", " + d + ", " + f + ", " + what + ")",
                        object.rests(e, d, f, what), model.rests(e, d, f, what));
            }
            case 13 -> {
                int x = upTo(11);
                due("home(" + f + ", " + x + ", " + upper + ")", object.home(f, x, upper),
                        model.home(f, x, upper));
            }
            default -> years();
        }
    }

    private void judge() {
        int n = upTo(5);
        long row = 0;
        for (int i = 0; i < Math.min(Math.max(n, 0), 4); i++) {
            int kind = random.nextInt(6);
            int[][] figures = {{0, 0, 0}, {1, 0, 0}, {2, upTo(4), upTo(3)}, {3, 0, upTo(3)},
                {4, upTo(3), upTo(9)}, {5, upTo(4), upTo(3)}};
            for (int figure : figures[kind]) {
                row = row * 10 + Math.floorMod(figure, 10);
            }
        }
        if (random.nextInt(20) == 0) {
            row = random.nextLong() >> random.nextInt(64);
        }
        due("judge(" + n + ", " + row + ")", object.judge(n, row), model.judge(n, row));
    }

    private void tidings() {
        int p = upTo(9);
        int c = upTo(1);
        int what = upTo(2);
        switch (random.nextInt(9)) {
            case 0 -> due("forget()", object.forget(), model.forget());
            case 1, 2, 3 -> due("came(" + p + ", " + c + ")", object.came(p, c), model.came(p, c));
            default -> due("strangers(" + what + ")", object.strangers(what),
                    model.strangers(what));
        }
    }

    private void years() {
        if (random.nextInt(4) == 0) {
            long seed = random.nextLong();
            due("seed(" + seed + ")", object.seed(seed), model.seed(seed));
        } else {
            int m = upTo(31);
            due("years(" + m + ")", object.years(m), model.years(m));
        }
    }

    /** The document once more, with lists and copies wherever they make it plainer. */
    private static final class Model {
        private String text = "";
        private List<int[]> fields = new ArrayList<>();
        private List<int[]> eaters = new ArrayList<>();
        private Stand now = new Stand(0, 0);
        private final List<Stand> acts = new ArrayList<>();
        private final List<int[]> tidings = new ArrayList<>();
        private final Stand[] slots = new Stand[2];
        private long seed = 0;

        private static final class Stand {
            int[] loaves;
            int[] seeds;
            int[][] owed;
            int year = 0;

            Stand(int fields, int eaters) {
                loaves = new int[fields];
                seeds = new int[fields];
                owed = new int[eaters][fields];
            }

            Stand copy() {
                Stand other = new Stand(0, owed.length);
                other.loaves = loaves.clone();
                other.seeds = seeds.clone();
                for (int e = 0; e < owed.length; e++) {
                    other.owed[e] = owed[e].clone();
                }
                other.year = year;
                return other;
            }
        }

        long write(int letter) {
            if (letter < 0 || letter > 255) {
                return -2;
            }
            if (text.length() == 48) {
                return -4;
            }
            text += (char) letter;
            return text.length();
        }

        long wipe() {
            int was = text.length();
            text = "";
            return was;
        }

        private static boolean isCountry(String text) {
            return text.matches("F(G[0-9][1-9][1-9]|E[0-9][0-9][0-3])*")
                    && text.chars().filter(c -> c == 'G').count() <= 4
                    && text.chars().filter(c -> c == 'E').count() <= 5;
        }

        private static boolean canBecomeCountry(String text) {
            for (String more : new String[] {"", "F", "1", "11", "111"}) {
                if (isCountry(text + more)) {
                    return true;
                }
            }
            return false;
        }

        long fault() {
            for (int place = 0; place < text.length(); place++) {
                if (!canBecomeCountry(text.substring(0, place + 1))) {
                    return place;
                }
            }
            return isCountry(text) ? -9 : text.length();
        }

        long country() {
            if (fault() != -9) {
                return -3;
            }
            fields = new ArrayList<>();
            eaters = new ArrayList<>();
            for (int i = 1; i < text.length(); i += 4) {
                int[] thing = {text.charAt(i + 1) - '0', text.charAt(i + 2) - '0',
                    text.charAt(i + 3) - '0'};
                (text.charAt(i) == 'G' ? fields : eaters).add(thing);
            }
            now = new Stand(fields.size(), eaters.size());
            for (int f = 0; f < fields.size(); f++) {
                now.loaves[f] = fields.get(f)[1];
            }
            acts.clear();
            Arrays.fill(slots, null);
            return 10 * fields.size() + eaters.size();
        }

        private boolean noField(int f) {
            return f < 0 || f >= fields.size();
        }

        private boolean noEater(int e) {
            return e < 0 || e >= eaters.size();
        }

        private static int sum(int[] row) {
            return Arrays.stream(row).sum();
        }

        private int sown(Stand s) {
            int bits = 0;
            for (int f = 0; f < fields.size(); f++) {
                bits += s.seeds[f] >= fields.get(f)[2] ? (int) Math.pow(2, f) : 0;
            }
            return bits;
        }

        private boolean isSown(Stand s, int f) {
            return s.seeds[f] >= fields.get(f)[2];
        }

        /** The fields that an eater came to, and the way as the last number. */
        private List<Integer> goOut(Stand s, int e, int walk) {
            List<Integer> seen = new ArrayList<>();
            int at = eaters.get(e)[0];
            int left = eaters.get(e)[2] == 1 ? 1_000_000 : walk;
            int whole = left;
            while (true) {
                int from = at;
                List<Integer> owed = new ArrayList<>();
                for (int f = 0; f < fields.size(); f++) {
                    if (s.owed[e][f] != 0) {
                        owed.add(f);
                    }
                }
                owed.sort((a, b) -> Integer.compare(Math.abs(fields.get(a)[0] - from),
                        Math.abs(fields.get(b)[0] - from)));
                if (owed.isEmpty() || Math.abs(fields.get(owed.get(0))[0] - at) > left) {
                    seen.add(whole - left);
                    return seen;
                }
                int f = owed.get(0);
                left -= Math.abs(fields.get(f)[0] - at);
                at = fields.get(f)[0];
                s.seeds[f] = Math.min(99, s.seeds[f] + s.owed[e][f]);
                s.owed[e][f] = 0;
                seen.add(f);
            }
        }

        private List<List<Integer>> goAll(Stand s) {
            List<List<Integer>> ways = new ArrayList<>();
            for (int e = 0; e < eaters.size(); e++) {
                ways.add(goOut(s, e, eaters.get(e)[1]));
            }
            return ways;
        }

        private void reap(Stand s) {
            for (int f = 0; f < fields.size(); f++) {
                s.loaves[f] = Math.min(99, s.loaves[f] + (isSown(s, f) ? fields.get(f)[1] : 0));
            }
            s.seeds = new int[fields.size()];
            s.year++;
        }

        private boolean bite(Stand s, int e, int... of) {
            int kind = eaters.get(e)[2];
            int much = kind == 2 ? 2 : 1;
            for (int f : of) {
                if (s.loaves[f] < much || kind == 3 && sum(s.owed[e]) != 0) {
                    return false;
                }
            }
            for (int f : of) {
                s.loaves[f] -= much;
                s.owed[e][f] = Math.min(99, s.owed[e][f] + much);
            }
            return true;
        }

        private void push(Stand before) {
            acts.add(before);
            if (acts.size() > 14) {
                acts.remove(0);
            }
        }

        long about(int what) {
            Stand then = now.copy();
            goAll(then);
            long[] answers = {fields.size(), eaters.size(), now.year, sum(now.loaves),
                sum(now.seeds), Arrays.stream(now.owed).mapToInt(Model::sum).sum(), sown(now),
                sown(then), acts.size(), tidings.size(), text.length()};
            return what < 0 || what > 10 ? -2 : answers[what];
        }

        long field(int f, int what) {
            if (noField(f)) {
                return -1;
            }
            if (what < 0 || what > 5) {
                return -2;
            }
            int debtors = 0;
            for (int e = 0; e < eaters.size(); e++) {
                debtors += now.owed[e][f] > 0 ? 1 << e : 0;
            }
            return what < 3 ? fields.get(f)[what]
                    : what == 3 ? now.loaves[f] : what == 4 ? now.seeds[f] : debtors;
        }

        long eater(int e, int what) {
            if (noEater(e)) {
                return -1;
            }
            if (what < 0 || what > 5) {
                return -2;
            }
            if (what < 3) {
                return eaters.get(e)[what];
            }
            if (what == 3) {
                return sum(now.owed[e]);
            }
            List<Integer> seen = goAll(now.copy()).get(e);
            int way = seen.remove(seen.size() - 1);
            return what == 5 ? way : seen.stream().mapToInt(f -> 1 << f).sum();
        }

        long owes(int e, int f) {
            return noEater(e) || noField(f) ? -1 : now.owed[e][f];
        }

        long eat(int e, int f) {
            if (noEater(e) || noField(f)) {
                return -1;
            }
            Stand before = now.copy();
            if (!bite(now, e, f)) {
                return -3;
            }
            push(before);
            return now.owed[e][f];
        }

        long cake(int e, int f, int g) {
            if (noEater(e) || noField(f) || noField(g)) {
                return -1;
            }
            if (f == g) {
                return -2;
            }
            Stand before = now.copy();
            if (!bite(now, e, f, g)) {
                return -3;
            }
            push(before);
            return sum(now.owed[e]);
        }

        long march() {
            push(now.copy());
            goAll(now);
            return sown(now);
        }

        long harvest() {
            push(now.copy());
            reap(now);
            return sum(now.loaves);
        }

        long undo() {
            if (acts.isEmpty()) {
                return -3;
            }
            now = acts.remove(acts.size() - 1);
            return acts.size();
        }

        long ahead(int f, int n) {
            if (noField(f)) {
                return -1;
            }
            if (n < 0 || n > 9) {
                return -2;
            }
            Stand s = now.copy();
            for (int i = 0; i < n; i++) {
                goAll(s);
                reap(s);
            }
            return s.loaves[f];
        }

        long wants(int f) {
            if (noField(f)) {
                return -1;
            }
            for (int many = 0; many <= eaters.size(); many++) {
                for (int bits = 0; bits < 1 << eaters.size(); bits++) {
                    Stand s = now.copy();
                    boolean all = Integer.bitCount(bits) == many;
                    for (int e = 0; e < eaters.size(); e++) {
                        all = all && ((bits & 1 << e) == 0 || bite(s, e, f));
                    }
                    goAll(s);
                    if (all && isSown(s, f)) {
                        return bits;
                    }
                }
            }
            return -9;
        }

        long rid(int e) {
            if (noEater(e)) {
                return -1;
            }
            for (int walk = 0; walk <= 99; walk++) {
                Stand s = now.copy();
                goOut(s, e, walk);
                if (sum(s.owed[e]) == 0) {
                    return walk;
                }
            }
            throw new IllegalStateException("no walk is enough");
        }

        long judge(int n, long row) {
            if (n < 1 || n > 4 || row < 0 || Long.toString(row).length() > 3 * n) {
                return -2;
            }
            String figures = "0".repeat(3 * n - Long.toString(row).length()) + row;
            Stand s = now.copy();
            for (int i = 0; i < n; i++) {
                if (!isSo(s, figures.substring(3 * i, 3 * i + 3))) {
                    return i;
                }
            }
            return -9;
        }

        private boolean isSo(Stand s, String doing) {
            int a = doing.charAt(1) - '0';
            int b = doing.charAt(2) - '0';
            if (doing.equals("000")) {
                goAll(s);
                return true;
            }
            if (doing.equals("100")) {
                reap(s);
                return true;
            }
            if (doing.startsWith("2")) {
                return !noEater(a) && !noField(b) && bite(s, a, b);
            }
            if (doing.startsWith("30")) {
                return !noField(b) && isSown(s, b);
            }
            if (doing.startsWith("4")) {
                return !noField(a) && s.loaves[a] >= b;
            }
            return doing.startsWith("5") && !noEater(a) && !noField(b) && s.owed[a][b] > 0;
        }

        private static long part(long above, long below, boolean upper) {
            for (long by = Math.max(above, below); by > 1; by--) {
                if (above % by == 0 && below % by == 0) {
                    return (upper ? above : below) / by;
                }
            }
            return upper ? above : below;
        }

        long share(int e, boolean upper) {
            if (noEater(e)) {
                return -1;
            }
            long[] sums = new long[2];
            goInOrders(new ArrayList<>(), e, sums);
            return part(sums[0], sums[1], upper);
        }

        private void goInOrders(List<Integer> order, int e, long[] sums) {
            if (order.size() == eaters.size()) {
                Stand s = now.copy();
                for (int next : order) {
                    int before = Integer.bitCount(sown(s));
                    goOut(s, next, eaters.get(next)[1]);
                    sums[0] += next == e ? Integer.bitCount(sown(s)) - before : 0;
                }
                sums[1]++;
                return;
            }
            for (int next = 0; next < eaters.size(); next++) {
                if (!order.contains(next)) {
                    order.add(next);
                    goInOrders(order, e, sums);
                    order.remove(order.size() - 1);
                }
            }
        }

        long came(int p, int c) {
            if (p < 0 || p > 9 || c < 0 || c > 1) {
                return -2;
            }
            if (tidings.size() == 6) {
                return -4;
            }
            tidings.add(new int[] {p, c});
            return tidings.size();
        }

        long forget() {
            int was = tidings.size();
            tidings.clear();
            return was;
        }

        long strangers(int what) {
            if (what != 0 && what != 1) {
                return -2;
            }
            List<Integer> fit = new ArrayList<>();
            for (int h = 0; h < 10; h++) {
                for (int w = 0; w < 10; w++) {
                    int left = h - w;
                    int right = h + w;
                    if (tidings.stream().allMatch(
                            t -> (t[0] >= left && t[0] <= right ? 1 : 0) == t[1])) {
                        fit.add(10 * h + w);
                    }
                }
            }
            return what == 0 ? fit.size() : fit.isEmpty() ? -9 : fit.get(0);
        }

        private int[] play(int one, int other, int f, int a, int b) {
            Stand s = now.copy();
            int[] has = new int[2];
            has[0] += a == 1 && bite(s, one, f) ? 4 : 0;
            has[1] += b == 1 && bite(s, other, f) ? 4 : 0;
            List<List<Integer>> ways = goAll(s);
            has[0] -= ways.get(one).get(ways.get(one).size() - 1);
            has[1] -= ways.get(other).get(ways.get(other).size() - 1);
            has[0] += isSown(s, f) ? 3 : 0;
            has[1] += isSown(s, f) ? 3 : 0;
            return has;
        }

        long rests(int one, int other, int f, int what) {
            if (noEater(one) || noEater(other) || noField(f)) {
                return -1;
            }
            if (one == other || what != 0 && what != 1) {
                return -2;
            }
            List<Integer> fit = new ArrayList<>();
            for (int a = 0; a < 2; a++) {
                for (int b = 0; b < 2; b++) {
                    int[] has = play(one, other, f, a, b);
                    if (play(one, other, f, 1 - a, b)[0] <= has[0]
                            && play(one, other, f, a, 1 - b)[1] <= has[1]) {
                        fit.add(10 * a + b);
                    }
                }
            }
            return what == 0 ? fit.size() : fit.isEmpty() ? -9 : fit.get(0);
        }

        long home(int f, int x, boolean upper) {
            if (noField(f)) {
                return -1;
            }
            if (x < 0 || x > 10) {
                return -2;
            }
            long below = (long) Math.pow(10, eaters.size());
            return part(chance(now, 0, f, x), below, upper);
        }

        private long chance(Stand s, int e, int f, int x) {
            if (e == eaters.size()) {
                return isSown(s, f) ? 1 : 0;
            }
            Stand gone = s.copy();
            goOut(gone, e, eaters.get(e)[1]);
            return x * chance(s, e + 1, f, x) + (10 - x) * chance(gone, e + 1, f, x);
        }

        long seed(long v) {
            long was = seed;
            seed = v;
            return was;
        }

        long years(int m) {
            if (m < 1 || m > 30) {
                return -2;
            }
            Stand s = now.copy();
            long together = 0;
            for (int i = 0; i < m; i++) {
                seed = seed * 6364136223846793005L + 1442695040888963407L;
                int lot = (int) (Long.divideUnsigned(seed, 1L << 33) % 28);
                if (lot >= 25) {
                    reap(s);
                } else if (lot >= 20) {
                    goAll(s);
                } else if (!noEater(lot / 4) && !noField(lot % 4)) {
                    bite(s, lot / 4, lot % 4);
                }
                together += sum(s.loaves);
            }
            return together;
        }

        long keep(int slot) {
            if (slot != 0 && slot != 1) {
                return -1;
            }
            slots[slot] = now.copy();
            return now.year;
        }

        long again(int slot) {
            if (slot != 0 && slot != 1) {
                return -1;
            }
            if (slots[slot] == null) {
                return -3;
            }
            now = slots[slot].copy();
            acts.clear();
            return now.year;
        }
    }
}
