import java.math.BigInteger;
import java.util.Map;

/** Boundary cases of promises 23 to 26, each under the words of the document that name it. */
public final class ChancesBoundariesTest {
    private static final Check CHECK = new Check();
    private static final int BAD = OwedFurrows.BAD;
    private static final int UNKNOWN = OwedFurrows.UNKNOWN;
    private static final int[] NO_NUMBER = {-1, 5, 31, Integer.MIN_VALUE, Integer.MAX_VALUE};

    private static final BigInteger FACTOR = new BigInteger("6364136223846793005");
    private static final BigInteger STEP = new BigInteger("1442695040888963407");
    private static final BigInteger ALL = BigInteger.ONE.shiftLeft(64);
    private static final long LOW_BITS = (1L << 33) - 1;

    public static void main(String[] args) {
        restsRefused();
        restsInTurn();
        restsByTies();
        restsOfWhoCanNotEat();
        restsTheOneFirst();
        restsOfArmies();
        restsOfWhoOwesAlready();
        restsHasAlwaysOne();
        homeRefused();
        homeForSure();
        homeInLeastTerms();
        homeOfNobody();
        seedOfAnyLong();
        yearsRefused();
        yearsWrap();
        yearsByUpperBits();
        yearsByLot();
        yearsByEaterAndField();
        yearsIfItCanBe();
        yearsTogether();
        nothingIsChanged();
        CHECK.end();
    }

    // ---- promise 23

    private static void restsRefused() {
        CHECK.sentence("UNKNOWN: both, field; BAD: both are one, what.");
        OwedFurrows x = Check.of("FG191G191G191G191E100E100E100E100E100");
        for (int wrong : NO_NUMBER) {
            CHECK.due("the one " + wrong, x.rests(wrong, 0, 0, 0), UNKNOWN);
            CHECK.due("the other " + wrong, x.rests(0, wrong, 0, 0), UNKNOWN);
            CHECK.due("both " + wrong, x.rests(wrong, wrong, 0, 0), UNKNOWN);
            CHECK.due("the field " + wrong, x.rests(0, 1, wrong, 0), UNKNOWN);
            CHECK.due("what " + wrong, x.rests(0, 1, 0, wrong), BAD);
        }
        CHECK.due("field 4", x.rests(0, 1, 4, 0), UNKNOWN);
        CHECK.due("what 2", x.rests(0, 1, 0, 2), BAD);
        CHECK.due("the last ones", x.rests(4, 3, 3, 1), 11);
        for (int eater = 0; eater < 5; eater++) {
            CHECK.due("both are " + eater, x.rests(eater, eater, 0, 0), BAD);
        }
    }

    private static void restsInTurn() {
        CHECK.sentence("Of several what is told first.");
        OwedFurrows x = Check.of("FG191E100E100");
        CHECK.due("no such ones, one and the same", x.rests(2, 2, 0, 0), UNKNOWN);
        CHECK.due("no such field, one and the same", x.rests(0, 0, 1, 0), UNKNOWN);
        CHECK.due("no such field, no such what", x.rests(0, 1, 1, 2), UNKNOWN);
        CHECK.due("one and the same, no such what", x.rests(1, 1, 0, -1), BAD);
    }

    private static void dueRests(String what, OwedFurrows x, int many, int first) {
        CHECK.due(what + ": how many", x.rests(0, 1, 0, 0), many);
        CHECK.due(what + ": the first", x.rests(0, 1, 0, 1), first);
    }

    private static void restsByTies() {
        CHECK.sentence("4, if it has eaten, 3, if that FIELD is SOWN then, less as far as it walks: "
                + "pairs in which neither has more by another choice alone");
        dueRests("a way of 3, no seed", Check.of("FG099E390E390"), 1, 11);
        dueRests("a way of 4, no seed", Check.of("FG099E490E490"), 4, 0);
        dueRests("a way of 5, no seed", Check.of("FG099E590E590"), 1, 0);
        dueRests("a way of 6, one is enough", Check.of("FG091E690E690"), 2, 1);
        dueRests("a way of 7, one is enough", Check.of("FG091E790E790"), 3, 0);
        dueRests("a way of 8, one is enough", Check.of("FG091E890E890"), 1, 0);
        dueRests("a way of 6, both are needed", Check.of("FG092E690E690"), 2, 0);
        dueRests("a way of 7, both are needed", Check.of("FG092E790E790"), 2, 0);
        dueRests("a way of 8, both are needed", Check.of("FG092E890E890"), 1, 0);
    }

    private static void restsOfWhoCanNotEat() {
        CHECK.sentence("each eats of it (1), if it can, or goes hungry (0)");
        OwedFurrows none = Check.of("FG119E100E100E100");
        none.eat(2, 0);
        dueRests("no loaf at all", none, 4, 0);
        OwedFurrows choosy = Check.of("FG199G991E103E103");
        choosy.eat(0, 1);
        choosy.eat(1, 1);
        dueRests("choosy ones that owe", choosy, 4, 0);
        OwedFurrows one = Check.of("FG199G991E103E103");
        one.eat(0, 1);
        dueRests("a choosy one that owes, and one that does not", one, 2, 1);
        dueRests("choosy ones that owe nothing", Check.of("FG199E103E103"), 1, 11);
    }

    private static void restsTheOneFirst() {
        CHECK.sentence("the one first");
        OwedFurrows x = Check.of("FG111E100E990");
        CHECK.due("who is near first: how many", x.rests(0, 1, 0, 0), 2);
        CHECK.due("who is near first: the first", x.rests(0, 1, 0, 1), 10);
        CHECK.due("who is far first: how many", x.rests(1, 0, 0, 0), 1);
        CHECK.due("who is far first: the first", x.rests(1, 0, 0, 1), 1);
        OwedFurrows two = Check.of("FG129E100E100");
        dueRests("a loaf for each", two, 1, 11);
        OwedFurrows single = Check.of("FG119E100E100");
        dueRests("one loaf for both", single, 2, 10);
        CHECK.due("one loaf for both, turned", single.rests(1, 0, 0, 1), 10);
    }

    private static void restsOfArmies() {
        CHECK.sentence("armies that eat by two");
        dueRests("one loaf", Check.of("FG119E102E102"), 4, 0);
        dueRests("two loaves", Check.of("FG129E102E102"), 2, 10);
        dueRests("three loaves", Check.of("FG139E102E102"), 2, 10);
        dueRests("four loaves", Check.of("FG149E102E102"), 1, 11);
        dueRests("two loaves, one first", Check.of("FG129E100E102"), 2, 10);
    }

    private static void restsOfWhoOwesAlready() {
        CHECK.sentence("less as far as it walks");
        OwedFurrows x = Check.of("FG991G091E590E590");
        x.eat(0, 0);
        x.eat(0, 1);
        x.eat(1, 1);
        dueRests("both ways are walked anyhow, or too far", x, 1, 11);
        OwedFurrows y = Check.of("FG091E190E290");
        y.eat(0, 0);
        y.eat(1, 0);
        dueRests("bread is free for who goes there anyhow", y, 1, 11);
    }

    /** Why none is never due: seed only grows by eating, so the two never run in a ring. */
    private static void restsHasAlwaysOne() {
        CHECK.sentence("how many; the first one");
        for (int way = 0; way <= 9; way++) {
            for (int need = 1; need <= 5; need++) {
                for (int yield = 1; yield <= 4; yield++) {
                    OwedFurrows x = Check.of("FG0" + yield + need + "E" + way + "92E590");
                    int many = x.rests(0, 1, 0, 0);
                    int first = x.rests(0, 1, 0, 1);
                    CHECK.due("1 .. 4 pairs", many >= 1 && many <= 4, true);
                    CHECK.due("00, 01, 10 or 11",
                            first == 0 || first == 1 || first == 10 || first == 11, true);
                }
            }
        }
    }

    // ---- promise 24

    private static void dueHome(OwedFurrows x, int field, int tenths, int above, int below) {
        String call = "home(" + field + ", " + tenths + ", ";
        CHECK.due(call + "true)", x.home(field, tenths, true), above);
        CHECK.due(call + "false)", x.home(field, tenths, false), below);
    }

    private static void homeRefused() {
        CHECK.sentence("each EATER stays there by x tenths (0 .. 10) / UNKNOWN; BAD: x.");
        OwedFurrows x = Check.of("FG191G191G191G191E100");
        for (int wrong : NO_NUMBER) {
            CHECK.due("home(" + wrong + ", 0, true)", x.home(wrong, 0, true), UNKNOWN);
            CHECK.due("home(" + wrong + ", 11, false)", x.home(wrong, 11, false), UNKNOWN);
        }
        for (int wrong : new int[] {-1, 11, Integer.MIN_VALUE, Integer.MAX_VALUE}) {
            CHECK.due("home(3, " + wrong + ", true)", x.home(3, wrong, true), BAD);
            CHECK.due("home(3, " + wrong + ", false)", x.home(3, wrong, false), BAD);
            CHECK.due("home(4, " + wrong + ", true)", x.home(4, wrong, true), UNKNOWN);
        }
        dueHome(x, 3, 0, 0, 1);
        dueHome(x, 3, 10, 0, 1);
    }

    private static OwedFurrows fiveOwing(int need) {
        OwedFurrows x = Check.of("FG19" + need + "E100E100E100E100E100");
        for (int eater = 0; eater < 5; eater++) {
            x.eat(eater, 0);
        }
        return x;
    }

    private static void homeForSure() {
        CHECK.sentence("each EATER stays there by x tenths (0 .. 10), by itself");
        dueHome(fiveOwing(5), 0, 0, 1, 1);
        dueHome(fiveOwing(6), 0, 0, 0, 1);
        dueHome(fiveOwing(1), 0, 10, 0, 1);
        OwedFurrows sown = fiveOwing(5);
        sown.march();
        dueHome(sown, 0, 0, 1, 1);
        dueHome(sown, 0, 10, 1, 1);
        dueHome(sown, 0, 5, 1, 1);
    }

    private static void homeInLeastTerms() {
        CHECK.sentence("told above (upper = true), below, in least terms");
        dueHome(fiveOwing(5), 0, 9, 1, 100000);
        dueHome(fiveOwing(1), 0, 1, 99999, 100000);
        dueHome(fiveOwing(1), 0, 9, 40951, 100000);
        dueHome(fiveOwing(5), 0, 5, 1, 32);
        dueHome(fiveOwing(1), 0, 5, 31, 32);
        dueHome(fiveOwing(3), 0, 5, 1, 2);
        dueHome(fiveOwing(5), 0, 8, 1, 3125);
        OwedFurrows one = Check.of("FG191E100E900E100");
        one.eat(0, 0);
        one.eat(1, 0);
        for (int tenths = 0; tenths <= 10; tenths++) {
            int by = BigInteger.valueOf(10 - tenths).gcd(BigInteger.TEN).intValue();
            dueHome(one, 0, tenths, (10 - tenths) / by, 10 / by);
        }
    }

    private static void homeOfNobody() {
        CHECK.sentence("that a FIELD is SOWN behind a MARCH now: a FRACTION");
        for (int tenths = 0; tenths <= 10; tenths++) {
            dueHome(Check.of("FG191"), 0, tenths, 0, 1);
            dueHome(Check.of("FG191E900"), 0, tenths, 0, 1);
        }
    }

    // ---- promise 25

    private static void seedOfAnyLong() {
        CHECK.sentence("THE SEED, a long; 0 at first / THE SEED is v: what it was.");
        OwedFurrows x = new OwedFurrows();
        long[] seeds = {0, 1, -1, Long.MAX_VALUE, Long.MIN_VALUE, Integer.MIN_VALUE, 1L << 33, -9};
        long was = 0;
        for (long seed : seeds) {
            CHECK.due("seed(" + seed + ")", x.seed(seed), was);
            was = seed;
        }
        CHECK.due("seed(-9) again", x.seed(-9), -9);
    }

    // ---- promise 26

    private static void yearsRefused() {
        CHECK.sentence("m times (1 .. 30) / BAD: m.");
        OwedFurrows x = Check.of("FG199E900");
        x.seed(77);
        for (int m : new int[] {0, -1, 31, Integer.MIN_VALUE, Integer.MAX_VALUE}) {
            CHECK.due("years(" + m + ")", x.years(m), BAD);
            CHECK.due("the seed stays", x.seed(77), 77);
        }
        CHECK.due("years(1)", x.years(1) >= 0, true);
        CHECK.due("years(30)", x.years(30) >= 0, true);
    }

    private static BigInteger unsigned(long value) {
        return BigInteger.valueOf(value).mod(ALL);
    }

    private static long stepOf(long seed) {
        return unsigned(seed).multiply(FACTOR).add(STEP).mod(ALL).longValue();
    }

    /** The seed that becomes this one by a step. */
    private static long seedAhead(long next) {
        return unsigned(next).subtract(STEP).multiply(FACTOR.modInverse(ALL)).mod(ALL).longValue();
    }

    private static void yearsWrap() {
        CHECK.sentence("x becomes x times 6364136223846793005 and 1442695040888963407 "
                + "(64 bits, wrapping)");
        OwedFurrows x = Check.of("FG199E900");
        for (long seed : new long[] {0, 1, -1, Long.MAX_VALUE, Long.MIN_VALUE, 5, 1L << 62}) {
            long due = seed;
            for (int m = 1; m <= 30; m++) {
                due = stepOf(due);
                x.seed(seed);
                x.years(m);
                CHECK.due("the seed behind " + m + " times from " + seed, x.seed(0), due);
            }
            x = Check.of("FG199E900");
        }
        for (long next : new long[] {0, -1, 1, Long.MIN_VALUE, Long.MAX_VALUE}) {
            x.seed(seedAhead(next));
            x.years(1);
            CHECK.due("the seed that becomes " + next, x.seed(0), next);
        }
    }

    /** Seed is in field 0 alone, so that a harvest brings 9; eater 1 is an army. */
    private static OwedFurrows withSeed() {
        OwedFurrows x = Check.of("FG191G191G191G191E100E102E101E103E100");
        x.eat(0, 0);
        x.march();
        return x;
    }

    private static void dueUpper(OwedFurrows x, long upper) {
        int lot = (int) (upper % 28);
        int due = lot >= 25 ? 35 + 9 : lot >= 20 ? 35 : lot / 4 == 1 ? 33 : 34;
        for (long low : new long[] {0, 1, LOW_BITS}) {
            x.seed(seedAhead(upper << 33 | low));
            CHECK.due("years(1) by " + upper + " above " + low, x.years(1), due);
        }
    }

    private static void yearsByUpperBits() {
        CHECK.sentence("what is left of its upper 31 bits by 28");
        long most = (1L << 31) - 1;
        for (long upper : new long[] {0, 1, 27, 28, 29, 55, 56, 1L << 30, most, most - 27}) {
            dueUpper(withSeed(), upper);
        }
        for (long upper = most - 27; upper <= most; upper++) {
            dueUpper(withSeed(), upper);
        }
    }

    private static void yearsByLot() {
        CHECK.sentence("0 .. 19 .. EATEN; 20 .. 24 A MARCH; 25 .. 27 A HARVEST");
        for (int lot = 0; lot <= 27; lot++) {
            dueUpper(withSeed(), lot);
        }
        for (int lot = 0; lot <= 27; lot++) {
            boolean marched = lot >= 20 && lot <= 24;
            OwedFurrows x = Check.of("FG191E000E100");
            x.eat(1, 0);
            long due = lot == 0 || lot == 4 ? 7 + 7 : marched ? 8 + 17 : 8 + 8;
            CHECK.due("lot " + lot + ", then a harvest", yearsOfTwo(x, lot), due);
        }
    }

    /** By a lot, then by a harvest. */
    private static int yearsOfTwo(OwedFurrows x, int lot) {
        for (long low = 0; low < 10_000; low++) {
            long next = (long) lot << 33 | low;
            if ((stepOf(next) >>> 33) % 28 == 25) {
                x.seed(seedAhead(next));
                return x.years(2);
            }
        }
        throw new IllegalStateException("no seed leads to lot " + lot);
    }

    /** Two loaves in one field alone: an army would take both, any other eater one. */
    private static OwedFurrows armyAtOneField(int army, int field) {
        StringBuilder text = new StringBuilder("FG929G929G929G929");
        for (int eater = 0; eater < 5; eater++) {
            text.append(eater == army ? "E002" : "E000");
        }
        OwedFurrows x = Check.of(text.toString());
        for (int other = 0; other < 4; other++) {
            if (other != field) {
                x.eat(army, other);
            }
        }
        return x;
    }

    private static void yearsByEaterAndField() {
        CHECK.sentence("0 .. 19 that by 4 (down) is an EATER that has EATEN of the FIELD that is "
                + "left by 4");
        for (int army = 0; army < 5; army++) {
            for (int field = 0; field < 4; field++) {
                OwedFurrows x = armyAtOneField(army, field);
                for (int lot = 0; lot < 20; lot++) {
                    x.seed(seedAhead((long) lot << 33));
                    int due = lot % 4 != field ? 2 : lot / 4 == army ? 0 : 1;
                    CHECK.due("lot " + lot + ", an army " + army + " at field " + field,
                            x.years(1), due);
                }
            }
        }
    }

    private static void dueByLot(String what, OwedFurrows x, int lot, int due) {
        x.seed(seedAhead((long) lot << 33));
        CHECK.due(what + ", lot " + lot, x.years(1), due);
    }

    private static void yearsIfItCanBe() {
        CHECK.sentence("if it can be");
        OwedFurrows one = Check.of("FG199E000");
        OwedFurrows empty = new OwedFurrows();
        for (int lot = 0; lot <= 27; lot++) {
            dueByLot("no such eater or field", one, lot, lot == 0 ? 8 : 9);
            dueByLot("nothing at all", empty, lot, 0);
        }
        OwedFurrows loaf = Check.of("FG111E102E100");
        dueByLot("one loaf for an army", loaf, 0, 1);
        dueByLot("one loaf", loaf, 4, 0);
        loaf.eat(1, 0);
        dueByLot("no loaf", loaf, 4, 0);
        OwedFurrows choosy = Check.of("FG999G999E003");
        dueByLot("a choosy one", choosy, 0, 17);
        choosy.eat(0, 1);
        dueByLot("a choosy one that owes", choosy, 0, 17);
    }

    private static void yearsTogether() {
        CHECK.sentence("LOAVES of all FIELDS, each time, together");
        OwedFurrows x = Check.of("FG191G181G171G161");
        for (int m = 1; m <= 30; m++) {
            CHECK.due("years(" + m + ")", x.years(m), 30 * m);
        }
        OwedFurrows full = Check.of("FG091E000");
        for (int year = 0; year < 11; year++) {
            full.eat(0, 0);
            full.march();
            full.harvest();
        }
        full.eat(0, 0);
        full.march();
        CHECK.sentence("LOAVES (99 at most)");
        dueByLot("96 and 9", full, 25, 99);
        CHECK.sentence("(Nothing changes but THE SEED.)");
        dueByLot("96 and 9 again", full, 27, 99);
        CHECK.due("field(0, 3)", full.field(0, 3), 96);
        CHECK.due("about(2)", full.about(2), 11);
    }

    // ---- all of them

    private static OwedFurrows lived() {
        OwedFurrows x = Check.of("FG191G392E090E202E103");
        x.eat(0, 0);
        x.march();
        x.harvest();
        x.keep(0);
        x.cake(1, 0, 1);
        x.march();
        x.eat(0, 1);
        x.keep(1);
        x.eat(2, 1);
        x.came(4, 1);
        x.seed(6);
        return x;
    }

    private static long yearsAndSeedBack(OwedFurrows x, int m) {
        long seed = x.seed(123);
        long answer = x.years(m);
        x.seed(seed);
        return answer;
    }

    private static void nothingIsChanged() {
        CHECK.sentence("In what follows nothing is changed. / (Nothing changes but THE SEED.)");
        Map<String, Check.Call> calls = Map.of(
                "rests(0, 1, 0, 0)", x -> x.rests(0, 1, 0, 0),
                "rests(2, 1, 1, 1)", x -> x.rests(2, 1, 1, 1),
                "home(0, 5, true)", x -> x.home(0, 5, true),
                "home(1, 0, false)", x -> x.home(1, 0, false),
                "years(1)", x -> yearsAndSeedBack(x, 1),
                "years(30)", x -> yearsAndSeedBack(x, 30));
        calls.forEach((name, call) -> CHECK.changesNothing(name, ChancesBoundariesTest::lived,
                call, call.on(lived())));
    }
}
