/**
 * A commons of a country: a field is sown by whoever has eaten of it.
 *
 * <p>Every row is made once, by the constructor, and used again by each call: no call makes an
 * object of its own.
 */
public final class OwedFurrows {
    public static final int UNKNOWN = -1, BAD = -2, LATE = -3, FULL = -4, NONE = -9;

    private static final int MOST_BYTES = 48;
    private static final int MOST_FIELDS = 4;
    private static final int MOST_EATERS = 5;
    private static final int MOST_ACTS = 14;
    private static final int MOST_CAME = 6;
    private static final int MOST_DOINGS = 4;
    private static final int MOST_YEARS_AHEAD = 9;
    private static final int MOST_LOTS = 30;
    private static final int SLOTS = 2;
    private static final int PLACES = 10;
    private static final int WALKS = 10;
    private static final int TENTHS = 10;

    /** Loaves, seed, what is owed and a walk that is asked for end here. */
    private static final int MOST = 99;

    private static final int TRAMP = 1;
    private static final int ARMY = 2;
    private static final int CHOOSY = 3;

    private static final int BYTES_OF_A_THING = 4;

    private static final int GAIN_OF_BREAD = 4;
    private static final int GAIN_OF_SEED = 3;
    private static final int PAIRS = 4;

    private static final long LOT_FACTOR = 6364136223846793005L;
    private static final long LOT_STEP = 1442695040888963407L;
    private static final int LOTS = 28;
    private static final int FIRST_MARCH_LOT = 20;
    private static final int FIRST_HARVEST_LOT = 25;

    private final Text text;
    private final Land land;
    private final Commons now;
    private final Commons trial;
    private final Acts acts;
    private final Tidings tidings;
    private final Commons[] kept;
    private final boolean[] isKept;
    private final int[] gains;
    private long lotSeed;

    public OwedFurrows() {
        text = new Text();
        land = new Land();
        now = new Commons(land);
        trial = new Commons(land);
        acts = new Acts(land);
        tidings = new Tidings();
        kept = new Commons[SLOTS];
        for (int slot = 0; slot < SLOTS; slot++) {
            kept[slot] = new Commons(land);
        }
        isKept = new boolean[SLOTS];
        gains = new int[2 * PAIRS];
        lotSeed = 0;
    }

    // ---- the country

    public int write(int letter) {
        if (letter < 0 || letter > 255) {
            return BAD;
        }
        if (text.length >= MOST_BYTES) {
            return FULL;
        }
        text.append(letter);
        return text.length;
    }

    public int wipe() {
        int was = text.length;
        text.length = 0;
        return was;
    }

    public int fault() {
        return text.firstFault();
    }

    public int country() {
        if (text.firstFault() != NONE) {
            return LATE;
        }
        land.readFrom(text);
        now.beginAnew();
        acts.count = 0;
        for (int slot = 0; slot < SLOTS; slot++) {
            isKept[slot] = false;
        }
        return 10 * land.fields + land.eaters;
    }

    public int about(int what) {
        switch (what) {
            case 0: return land.fields;
            case 1: return land.eaters;
            case 2: return now.year;
            case 3: return now.allLoaves();
            case 4: return now.allSeed();
            case 5: return now.allDebts();
            case 6: return now.sownFields();
            case 7: return sownIfCome(land.allEaters());
            case 8: return acts.count;
            case 9: return tidings.count;
            case 10: return text.length;
            default: return BAD;
        }
    }

    public int field(int field, int what) {
        if (!land.hasField(field)) {
            return UNKNOWN;
        }
        switch (what) {
            case 0: return land.places[field];
            case 1: return land.yields[field];
            case 2: return land.needs[field];
            case 3: return now.loaves[field];
            case 4: return now.sacks[field];
            case 5: return now.debtorsOf(field);
            default: return BAD;
        }
    }

    public int eater(int eater, int what) {
        if (!land.hasEater(eater)) {
            return UNKNOWN;
        }
        switch (what) {
            case 0: return land.homes[eater];
            case 1: return land.walks[eater];
            case 2: return land.kinds[eater];
            case 3: return now.debtsOf(eater);
            case 4:
                sownIfCome(land.allEaters());
                return trial.visits[eater];
            case 5:
                sownIfCome(land.allEaters());
                return trial.ways[eater];
            default: return BAD;
        }
    }

    public int owes(int eater, int field) {
        if (!land.hasEater(eater) || !land.hasField(field)) {
            return UNKNOWN;
        }
        return now.debt(eater, field);
    }

    // ---- acts

    public int eat(int eater, int field) {
        if (!land.hasEater(eater) || !land.hasField(field)) {
            return UNKNOWN;
        }
        if (!now.canTake(eater, field)) {
            return LATE;
        }
        acts.remember(now);
        now.takeLoaves(eater, field);
        return now.debt(eater, field);
    }

    public int cake(int eater, int one, int other) {
        if (!land.hasEater(eater) || !land.hasField(one) || !land.hasField(other)) {
            return UNKNOWN;
        }
        if (one == other) {
            return BAD;
        }
        if (!now.canTake(eater, one) || !now.canTake(eater, other)) {
            return LATE;
        }
        acts.remember(now);
        now.takeLoaves(eater, one);
        now.takeLoaves(eater, other);
        return now.debtsOf(eater);
    }

    public int march() {
        acts.remember(now);
        now.callOut(land.allEaters());
        return now.sownFields();
    }

    public int harvest() {
        acts.remember(now);
        now.reap();
        return now.allLoaves();
    }

    public int undo() {
        if (acts.count == 0) {
            return LATE;
        }
        acts.takeBackInto(now);
        return acts.count;
    }

    // ---- years to come

    public int ahead(int field, int n) {
        if (!land.hasField(field)) {
            return UNKNOWN;
        }
        if (n < 0 || n > MOST_YEARS_AHEAD) {
            return BAD;
        }
        trial.copyFrom(now);
        for (int year = 0; year < n; year++) {
            trial.callOut(land.allEaters());
            trial.reap();
        }
        return trial.loaves[field];
    }

    public int wants(int field) {
        if (!land.hasField(field)) {
            return UNKNOWN;
        }
        int best = NONE;
        for (int fed = 0; fed <= land.allEaters(); fed++) {
            boolean fewer = best == NONE || Integer.bitCount(fed) < Integer.bitCount(best);
            if (fewer && isSownIfFed(fed, field)) {
                best = fed;
            }
        }
        return best;
    }

    public int rid(int eater) {
        if (!land.hasEater(eater)) {
            return UNKNOWN;
        }
        if (land.kinds[eater] == TRAMP) {
            return 0;
        }
        // The way does not hang on the walk, which only cuts it off: so the whole way is the least.
        trial.copyFrom(now);
        trial.sendOut(eater, MOST);
        return trial.ways[eater];
    }

    public int judge(int n, long row) {
        if (n < 1 || n > MOST_DOINGS || row < 0 || withoutLast(row, n) != 0) {
            return BAD;
        }
        trial.copyFrom(now);
        for (int place = 0; place < n; place++) {
            int doing = (int) (withoutLast(row, n - 1 - place) % 1000);
            if (!isSo(doing / 100, doing / 10 % 10, doing % 10)) {
                return place;
            }
        }
        return NONE;
    }

    public int share(int eater, boolean upper) {
        if (!land.hasEater(eater)) {
            return UNKNOWN;
        }
        long above = 0;
        for (int before = 0; before <= land.allEaters(); before++) {
            if ((before >> eater & 1) == 0) {
                int more = Integer.bitCount(sownIfCome(before | 1 << eater))
                        - Integer.bitCount(sownIfCome(before));
                int many = Integer.bitCount(before);
                above += more * ordersOf(many) * ordersOf(land.eaters - 1 - many);
            }
        }
        return partOfFraction(above, ordersOf(land.eaters), upper);
    }

    // ---- strangers

    public int came(int p, int came) {
        if (p < 0 || p >= PLACES || came < 0 || came > 1) {
            return BAD;
        }
        if (tidings.count >= MOST_CAME) {
            return FULL;
        }
        tidings.add(p, came == 1);
        return tidings.count;
    }

    public int forget() {
        int was = tidings.count;
        tidings.count = 0;
        return was;
    }

    public int strangers(int what) {
        if (what < 0 || what > 1) {
            return BAD;
        }
        int many = 0;
        int first = NONE;
        for (int stranger = 0; stranger < PLACES * WALKS; stranger++) {
            if (tidings.allowFor(stranger / WALKS, stranger % WALKS)) {
                many++;
                first = first == NONE ? stranger : first;
            }
        }
        return what == 0 ? many : first;
    }

    // ---- rests, chances

    public int rests(int one, int other, int field, int what) {
        if (!land.hasEater(one) || !land.hasEater(other) || !land.hasField(field)) {
            return UNKNOWN;
        }
        if (one == other || what < 0 || what > 1) {
            return BAD;
        }
        for (int pair = 0; pair < PAIRS; pair++) {
            playPair(pair, one, other, field);
        }
        int many = 0;
        int first = NONE;
        for (int pair = 0; pair < PAIRS; pair++) {
            if (isAtRest(pair)) {
                many++;
                first = first == NONE ? 10 * (pair >> 1) + (pair & 1) : first;
            }
        }
        return what == 0 ? many : first;
    }

    public int home(int field, int x, boolean upper) {
        if (!land.hasField(field)) {
            return UNKNOWN;
        }
        if (x < 0 || x > TENTHS) {
            return BAD;
        }
        long above = 0;
        for (int comers = 0; comers <= land.allEaters(); comers++) {
            if ((sownIfCome(comers) >> field & 1) == 1) {
                int coming = Integer.bitCount(comers);
                above += power(TENTHS - x, coming) * power(x, land.eaters - coming);
            }
        }
        return partOfFraction(above, power(TENTHS, land.eaters), upper);
    }

    public long seed(long v) {
        long was = lotSeed;
        lotSeed = v;
        return was;
    }

    public int years(int m) {
        if (m < 1 || m > MOST_LOTS) {
            return BAD;
        }
        trial.copyFrom(now);
        int together = 0;
        for (int time = 0; time < m; time++) {
            lotSeed = lotSeed * LOT_FACTOR + LOT_STEP;
            doByLot((int) ((lotSeed >>> 33) % LOTS));
            together += trial.allLoaves();
        }
        return together;
    }

    // ---- slots

    public int keep(int slot) {
        if (slot < 0 || slot >= SLOTS) {
            return UNKNOWN;
        }
        kept[slot].copyFrom(now);
        isKept[slot] = true;
        return now.year;
    }

    public int again(int slot) {
        if (slot < 0 || slot >= SLOTS) {
            return UNKNOWN;
        }
        if (!isKept[slot]) {
            return LATE;
        }
        now.copyFrom(kept[slot]);
        acts.count = 0;
        return now.year;
    }

    // ---- what the calls share

    /** Leaves the march of these eaters on the trial, for its visits and ways. */
    private int sownIfCome(int comers) {
        trial.copyFrom(now);
        trial.callOut(comers);
        return trial.sownFields();
    }

    private boolean isSownIfFed(int fed, int field) {
        trial.copyFrom(now);
        for (int eater = 0; eater < land.eaters; eater++) {
            if ((fed >> eater & 1) == 1 && !tryToTake(eater, field)) {
                return false;
            }
        }
        trial.callOut(land.allEaters());
        return trial.isSown(field);
    }

    private boolean tryToTake(int eater, int field) {
        if (!land.hasEater(eater) || !land.hasField(field) || !trial.canTake(eater, field)) {
            return false;
        }
        trial.takeLoaves(eater, field);
        return true;
    }

    /** Three figures that tell no doing at all can not be, so they are answered as one that can't. */
    private boolean isSo(int kind, int second, int third) {
        if (kind < 2 && (second != 0 || third != 0)) {
            return false;
        }
        switch (kind) {
            case 0:
                trial.callOut(land.allEaters());
                return true;
            case 1:
                trial.reap();
                return true;
            case 2: return tryToTake(second, third);
            case 3: return second == 0 && land.hasField(third) && trial.isSown(third);
            case 4: return land.hasField(second) && trial.loaves[second] >= third;
            case 5:
                return land.hasEater(second) && land.hasField(third)
                        && trial.debt(second, third) > 0;
            default: return false;
        }
    }

    /** The pair's upper bit is the choice of the one, its lower bit that of the other. */
    private void playPair(int pair, int one, int other, int field) {
        trial.copyFrom(now);
        boolean oneAte = pair >> 1 == 1 && tryToTake(one, field);
        boolean otherAte = (pair & 1) == 1 && tryToTake(other, field);
        trial.callOut(land.allEaters());
        int sown = trial.isSown(field) ? GAIN_OF_SEED : 0;
        gains[2 * pair] = sown + (oneAte ? GAIN_OF_BREAD : 0) - trial.ways[one];
        gains[2 * pair + 1] = sown + (otherAte ? GAIN_OF_BREAD : 0) - trial.ways[other];
    }

    private boolean isAtRest(int pair) {
        int ifOneChanged = pair ^ 2;
        int ifOtherChanged = pair ^ 1;
        return gains[2 * pair] >= gains[2 * ifOneChanged]
                && gains[2 * pair + 1] >= gains[2 * ifOtherChanged + 1];
    }

    private void doByLot(int lot) {
        if (lot < FIRST_MARCH_LOT) {
            tryToTake(lot / 4, lot % 4);
        } else if (lot < FIRST_HARVEST_LOT) {
            trial.callOut(land.allEaters());
        } else {
            trial.reap();
        }
    }

    /** The row without so many of its last doings, of three figures each. */
    private static long withoutLast(long row, int doings) {
        long rest = row;
        for (int gone = 0; gone < doings; gone++) {
            rest /= 1000;
        }
        return rest;
    }

    private static long ordersOf(int many) {
        long orders = 1;
        for (int next = 2; next <= many; next++) {
            orders *= next;
        }
        return orders;
    }

    private static long power(long base, int times) {
        long product = 1;
        for (int time = 0; time < times; time++) {
            product *= base;
        }
        return product;
    }

    private static int partOfFraction(long above, long below, boolean upper) {
        // A sign stays above alone, so it is no part of what both are divided by.
        long larger = Math.abs(above);
        long smaller = below;
        for (int step = 0; step < 100 && smaller != 0; step++) {
            long left = larger % smaller;
            larger = smaller;
            smaller = left;
        }
        if (larger == 0) {
            return 0;
        }
        return (int) ((upper ? above : below) / larger);
    }

    /** The bytes that are written, a country or not. */
    private static final class Text {
        final int[] bytes;
        int length;

        Text() {
            bytes = new int[MOST_BYTES];
            length = 0;
        }

        void append(int letter) {
            if (length < MOST_BYTES) {
                bytes[length] = letter;
                length++;
            }
        }

        int firstFault() {
            if (length == 0 || bytes[0] != 'F') {
                return 0;
            }
            int fields = 0;
            int eaters = 0;
            for (int start = 1; start < length; start += BYTES_OF_A_THING) {
                boolean isField = bytes[start] == 'G';
                fields += isField ? 1 : 0;
                eaters += bytes[start] == 'E' ? 1 : 0;
                if (!isField && bytes[start] != 'E'
                        || fields > MOST_FIELDS || eaters > MOST_EATERS) {
                    return start;
                }
                int fault = faultOfThing(start, isField);
                if (fault != NONE) {
                    return fault;
                }
            }
            return NONE;
        }

        private int faultOfThing(int start, boolean isField) {
            for (int behind = 1; behind < BYTES_OF_A_THING; behind++) {
                int place = start + behind;
                if (place >= length) {
                    return length;
                }
                int least = isField && behind > 1 ? '1' : '0';
                int greatest = !isField && behind == 3 ? '3' : '9';
                if (bytes[place] < least || bytes[place] > greatest) {
                    return place;
                }
            }
            return NONE;
        }

        int figure(int place) {
            return place >= 0 && place < length ? bytes[place] - '0' : 0;
        }
    }

    /** What the text has told of fields and eaters: it stays while years go by. */
    private static final class Land {
        final int[] places;
        final int[] yields;
        final int[] needs;
        final int[] homes;
        final int[] walks;
        final int[] kinds;
        int fields;
        int eaters;

        Land() {
            places = new int[MOST_FIELDS];
            yields = new int[MOST_FIELDS];
            needs = new int[MOST_FIELDS];
            homes = new int[MOST_EATERS];
            walks = new int[MOST_EATERS];
            kinds = new int[MOST_EATERS];
            fields = 0;
            eaters = 0;
        }

        void readFrom(Text text) {
            fields = 0;
            eaters = 0;
            for (int start = 1; start < text.length; start += BYTES_OF_A_THING) {
                if (text.bytes[start] == 'G') {
                    addField(text, start);
                } else {
                    addEater(text, start);
                }
            }
        }

        private void addField(Text text, int start) {
            if (fields < MOST_FIELDS) {
                places[fields] = text.figure(start + 1);
                yields[fields] = text.figure(start + 2);
                needs[fields] = text.figure(start + 3);
                fields++;
            }
        }

        private void addEater(Text text, int start) {
            if (eaters < MOST_EATERS) {
                homes[eaters] = text.figure(start + 1);
                walks[eaters] = text.figure(start + 2);
                kinds[eaters] = text.figure(start + 3);
                eaters++;
            }
        }

        boolean hasField(int field) {
            return field >= 0 && field < fields;
        }

        boolean hasEater(int eater) {
            return eater >= 0 && eater < eaters;
        }

        int allEaters() {
            return (1 << eaters) - 1;
        }

        int portionOf(int eater) {
            return kinds[eater] == ARMY ? 2 : 1;
        }
    }

    /** What changes from year to year; fields and eaters handed in are those of the land. */
    private static final class Commons {
        final Land land;
        final int[] loaves;
        final int[] sacks;
        final int[] debts;
        int year;

        /** Of each eater, the fields that it came to and how far it walked when it last went. */
        final int[] visits;
        final int[] ways;

        Commons(Land land) {
            this.land = land;
            loaves = new int[MOST_FIELDS];
            sacks = new int[MOST_FIELDS];
            debts = new int[MOST_EATERS * MOST_FIELDS];
            year = 0;
            visits = new int[MOST_EATERS];
            ways = new int[MOST_EATERS];
        }

        void beginAnew() {
            for (int field = 0; field < MOST_FIELDS; field++) {
                loaves[field] = field < land.fields ? land.yields[field] : 0;
                sacks[field] = 0;
            }
            for (int place = 0; place < MOST_EATERS * MOST_FIELDS; place++) {
                debts[place] = 0;
            }
            year = 0;
        }

        void copyFrom(Commons other) {
            System.arraycopy(other.loaves, 0, loaves, 0, MOST_FIELDS);
            System.arraycopy(other.sacks, 0, sacks, 0, MOST_FIELDS);
            System.arraycopy(other.debts, 0, debts, 0, MOST_EATERS * MOST_FIELDS);
            year = other.year;
        }

        int debt(int eater, int field) {
            return debts[eater * MOST_FIELDS + field];
        }

        int debtsOf(int eater) {
            int sum = 0;
            for (int field = 0; field < land.fields; field++) {
                sum += debt(eater, field);
            }
            return sum;
        }

        int allDebts() {
            int sum = 0;
            for (int eater = 0; eater < land.eaters; eater++) {
                sum += debtsOf(eater);
            }
            return sum;
        }

        int debtorsOf(int field) {
            int bits = 0;
            for (int eater = 0; eater < land.eaters; eater++) {
                bits |= debt(eater, field) > 0 ? 1 << eater : 0;
            }
            return bits;
        }

        int allLoaves() {
            int sum = 0;
            for (int field = 0; field < land.fields; field++) {
                sum += loaves[field];
            }
            return sum;
        }

        int allSeed() {
            int sum = 0;
            for (int field = 0; field < land.fields; field++) {
                sum += sacks[field];
            }
            return sum;
        }

        boolean isSown(int field) {
            return sacks[field] >= land.needs[field];
        }

        int sownFields() {
            int bits = 0;
            for (int field = 0; field < land.fields; field++) {
                bits |= isSown(field) ? 1 << field : 0;
            }
            return bits;
        }

        boolean canTake(int eater, int field) {
            boolean tooProud = land.kinds[eater] == CHOOSY && debtsOf(eater) > 0;
            return loaves[field] >= land.portionOf(eater) && !tooProud;
        }

        void takeLoaves(int eater, int field) {
            int portion = land.portionOf(eater);
            loaves[field] -= portion;
            debts[eater * MOST_FIELDS + field] = Math.min(MOST, debt(eater, field) + portion);
        }

        void callOut(int comers) {
            for (int eater = 0; eater < land.eaters; eater++) {
                if ((comers >> eater & 1) == 1) {
                    sendOut(eater, land.walks[eater]);
                }
            }
        }

        void sendOut(int eater, int walk) {
            visits[eater] = 0;
            ways[eater] = 0;
            int at = land.homes[eater];
            for (int stop = 0; stop < MOST_FIELDS; stop++) {
                int field = nearestOwed(eater, at);
                if (field == NONE) {
                    return;
                }
                int way = Math.abs(land.places[field] - at);
                if (land.kinds[eater] != TRAMP && ways[eater] + way > walk) {
                    return;
                }
                bringSeed(eater, field);
                visits[eater] |= 1 << field;
                ways[eater] += way;
                at = land.places[field];
            }
        }

        private int nearestOwed(int eater, int at) {
            int nearest = NONE;
            int leastWay = PLACES;
            for (int field = 0; field < land.fields; field++) {
                int way = Math.abs(land.places[field] - at);
                if (debt(eater, field) > 0 && way < leastWay) {
                    nearest = field;
                    leastWay = way;
                }
            }
            return nearest;
        }

        private void bringSeed(int eater, int field) {
            sacks[field] = Math.min(MOST, sacks[field] + debt(eater, field));
            debts[eater * MOST_FIELDS + field] = 0;
        }

        void reap() {
            for (int field = 0; field < land.fields; field++) {
                if (isSown(field)) {
                    loaves[field] = Math.min(MOST, loaves[field] + land.yields[field]);
                }
                sacks[field] = 0;
            }
            year++;
        }
    }

    /** How the commons stood ahead of each of the last acts, in a ring. */
    private static final class Acts {
        final Commons[] ring;
        int first;
        int count;

        Acts(Land land) {
            ring = new Commons[MOST_ACTS];
            for (int place = 0; place < MOST_ACTS; place++) {
                ring[place] = new Commons(land);
            }
            first = 0;
            count = 0;
        }

        void remember(Commons now) {
            if (count == MOST_ACTS) {
                first = (first + 1) % MOST_ACTS;
                count--;
            }
            ring[(first + count) % MOST_ACTS].copyFrom(now);
            count++;
        }

        void takeBackInto(Commons now) {
            if (count > 0) {
                count--;
                now.copyFrom(ring[(first + count) % MOST_ACTS]);
            }
        }
    }

    /** Where a stranger was seen to come, or not. */
    private static final class Tidings {
        final int[] places;
        final boolean[] cameThere;
        int count;

        Tidings() {
            places = new int[MOST_CAME];
            cameThere = new boolean[MOST_CAME];
            count = 0;
        }

        void add(int place, boolean cameToIt) {
            if (count < MOST_CAME) {
                places[count] = place;
                cameThere[count] = cameToIt;
                count++;
            }
        }

        boolean allowFor(int dwelling, int walk) {
            for (int tiding = 0; tiding < count; tiding++) {
                boolean reaches = Math.abs(dwelling - places[tiding]) <= walk;
                if (reaches != cameThere[tiding]) {
                    return false;
                }
            }
            return true;
        }
    }
}
