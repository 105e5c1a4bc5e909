import java.util.Map;

/** Boundary cases of promises 15 to 19, each under the words of the document that name it. */
public final class ComingBoundariesTest {
    private static final Check CHECK = new Check();
    private static final int BAD = OwedFurrows.BAD;
    private static final int UNKNOWN = OwedFurrows.UNKNOWN;
    private static final int NONE = OwedFurrows.NONE;
    private static final int[] NO_NUMBER = {-1, 5, Integer.MIN_VALUE, Integer.MAX_VALUE};

    public static void main(String[] args) {
        aheadByYears();
        aheadMarchesThenHarvests();
        aheadOfNinetyNine();
        aheadRefused();
        wantsNobody();
        wantsAll();
        wantsTheFewest();
        wantsTheLeastOfLikeOnes();
        wantsWhoCan();
        wantsOnceEach();
        wantsNone();
        wantsRefused();
        ridOfNothing();
        ridOfTheLongestWay();
        ridIsTheLeast();
        ridRefused();
        judgeByNumber();
        judgeByFigures();
        judgeThePlace();
        judgeEaten();
        judgeSown();
        judgeLoaves();
        judgeOwed();
        judgeOfNoSuchThing();
        judgeOfNoDoing();
        shareOfNothing();
        shareOfAll();
        shareInLeastTerms();
        shareRefused();
        nothingIsChanged();
        CHECK.end();
    }

    // ---- promise 15

    private static void aheadByYears() {
        CHECK.sentence("AHEAD for n YEARS (0 .. 9)");
        OwedFurrows x = Check.of("FG791G391E520");
        x.cake(0, 0, 1);
        int[] near = {8, 17, 17, 17, 17, 17, 17, 17, 17, 17};
        int[] far = {8, 8, 17, 17, 17, 17, 17, 17, 17, 17};
        for (int n = 0; n <= 9; n++) {
            CHECK.due("ahead(0, " + n + ")", x.ahead(0, n), near[n]);
            CHECK.due("ahead(1, " + n + ")", x.ahead(1, n), far[n]);
        }
    }

    private static void aheadMarchesThenHarvests() {
        CHECK.sentence("in each a MARCH, then a HARVEST, nobody eating");
        OwedFurrows owed = Check.of("FG191E100");
        owed.eat(0, 0);
        CHECK.due("what is owed: ahead(0, 1)", owed.ahead(0, 1), 17);
        owed.march();
        CHECK.due("seed that is there: ahead(0, 0)", owed.ahead(0, 0), 8);
        CHECK.due("seed that is there: ahead(0, 1)", owed.ahead(0, 1), 17);
        CHECK.due("seed is there once: ahead(0, 9)", owed.ahead(0, 9), 17);
        owed.harvest();
        CHECK.due("nothing is owed: ahead(0, 9)", owed.ahead(0, 9), 17);
        OwedFurrows far = Check.of("FG991E080");
        far.eat(0, 0);
        CHECK.due("too far for ever: ahead(0, 9)", far.ahead(0, 9), 8);
        OwedFurrows lost = Check.of("FG192E100");
        lost.eat(0, 0);
        CHECK.due("too little seed, lost each year: ahead(0, 9)", lost.ahead(0, 9), 8);
    }

    private static void aheadOfNinetyNine() {
        CHECK.sentence("LOAVES more as its YIELD (99 at most)");
        OwedFurrows x = Check.of("FG091E001");
        for (int year = 0; year < 11; year++) {
            x.eat(0, 0);
            x.march();
            x.harvest();
        }
        for (int eaten = 1; eaten <= 8; eaten++) {
            x.eat(0, 0);
            CHECK.due("ahead(0, 1)", x.ahead(0, 1), Math.min(99, 97 - eaten + 9));
            CHECK.due("ahead(0, 0)", x.ahead(0, 0), 97 - eaten);
        }
    }

    private static void aheadRefused() {
        CHECK.sentence("UNKNOWN; BAD: n.");
        OwedFurrows x = Check.of("FG191G191G191G191");
        for (int wrong : NO_NUMBER) {
            CHECK.due("ahead(" + wrong + ", 0)", x.ahead(wrong, 0), UNKNOWN);
            CHECK.due("ahead(" + wrong + ", 10)", x.ahead(wrong, 10), UNKNOWN);
        }
        CHECK.due("ahead(4, 0)", x.ahead(4, 0), UNKNOWN);
        CHECK.due("ahead(4, -1)", x.ahead(4, -1), UNKNOWN);
        CHECK.due("ahead(3, 9)", x.ahead(3, 9), 9);
        for (int n : new int[] {-1, 10, Integer.MIN_VALUE, Integer.MAX_VALUE}) {
            CHECK.due("ahead(3, " + n + ")", x.ahead(3, n), BAD);
        }
    }

    // ---- promise 16

    private static void wantsNobody() {
        CHECK.sentence("the fewest EATERS by which it is SOWN behind a MARCH then");
        OwedFurrows x = Check.of("FG192E100E100");
        x.eat(0, 0);
        x.eat(0, 0);
        CHECK.due("as much as it needs is owed", x.wants(0), 0);
        x.march();
        CHECK.due("as much as it needs is there", x.wants(0), 0);
        x.harvest();
        CHECK.due("behind a harvest", x.wants(0), 3);
        OwedFurrows none = Check.of("FG111");
        CHECK.due("nobody there", none.wants(0), NONE);
    }

    private static void wantsAll() {
        CHECK.sentence("the fewest EATERS (bits)");
        for (int need = 1; need <= 9; need++) {
            OwedFurrows x = Check.of("FG19" + need + "E100E100E100E100E100");
            CHECK.due("a need of " + need, x.wants(0), need > 5 ? NONE : (1 << need) - 1);
            OwedFurrows y = Check.of("FG19" + need + "E102E102E102E102E102");
            CHECK.due("armies for " + need, y.wants(0), need > 8 ? NONE : (2 << (need - 1) / 2) - 1);
        }
        OwedFurrows nine = Check.of("FG199E102E102E102E102E100");
        CHECK.due("four armies and one, nine loaves for nine", nine.wants(0), 31);
        OwedFurrows eight = Check.of("FG189E102E102E102E102E100");
        CHECK.due("eight loaves for nine", eight.wants(0), NONE);
    }

    private static void wantsTheFewest() {
        CHECK.sentence("the fewest EATERS");
        CHECK.due("one army, not two", Check.of("FG192E100E100E102").wants(0), 4);
        CHECK.due("the last two", Check.of("FG194E100E100E100E102E102").wants(0), 24);
        CHECK.due("the last one alone comes", Check.of("FG091E900E900E900E900E091").wants(0), 16);
    }

    private static void wantsTheLeastOfLikeOnes() {
        CHECK.sentence("of like ones the least");
        CHECK.due("the first", Check.of("FG191E100E100E100").wants(0), 1);
        CHECK.due("0 and 1, not 0 and 2", Check.of("FG192E100E100E100").wants(0), 3);
        CHECK.due("three loaves: 0 and 2, not both armies, nor 1 and 2",
                Check.of("FG133E102E102E100E100").wants(0), 5);
        OwedFurrows x = Check.of("FG193E100E102E100E102E900");
        CHECK.due("0 and 1, not 1 and 2", x.wants(0), 3);
        OwedFurrows y = Check.of("FG293E200E900E202E202");
        CHECK.due("0 and 2, not 0 and 3, nor 2 and 3", y.wants(0), 5);
    }

    private static void wantsWhoCan() {
        CHECK.sentence("EATEN of once now, by number (all of them can)");
        CHECK.due("three loaves for 1 and 2", Check.of("FG133E100E102").wants(0), 3);
        CHECK.due("two loaves for 1 and 2", Check.of("FG123E100E102").wants(0), NONE);
        CHECK.due("an army with one loaf", Check.of("FG111E102").wants(0), NONE);
        CHECK.due("an army with two", Check.of("FG122E102").wants(0), 1);
        OwedFurrows gone = Check.of("FG111G111E103E100");
        gone.eat(1, 0);
        gone.march();
        gone.undo();
        CHECK.due("no loaf is needed by nobody", gone.wants(0), 0);
        OwedFurrows choosy = Check.of("FG191G191E103E100");
        choosy.eat(0, 1);
        CHECK.due("a choosy one that owes elsewhere", choosy.wants(0), 2);
        choosy.march();
        CHECK.due("a choosy one that owes no more", choosy.wants(0), 1);
    }

    private static void wantsOnceEach() {
        CHECK.sentence("by each of whom it is EATEN of once now");
        CHECK.due("one alone for two", Check.of("FG192E100").wants(0), NONE);
        CHECK.due("one alone for one", Check.of("FG191E100").wants(0), 1);
        CHECK.due("an army alone for three", Check.of("FG193E102").wants(0), NONE);
        OwedFurrows x = Check.of("FG193E102");
        x.eat(0, 0);
        CHECK.due("with what it owes already", x.wants(0), 1);
    }

    private static void wantsNone() {
        CHECK.sentence("NONE.");
        CHECK.due("all are too far", Check.of("FG991E080E000E810").wants(0), 4);
        CHECK.due("all are too far", Check.of("FG991E080E000E800").wants(0), NONE);
        OwedFurrows eaten = Check.of("FG112E100E100");
        eaten.eat(0, 0);
        CHECK.due("no loaves are left", eaten.wants(0), NONE);
    }

    private static void wantsRefused() {
        CHECK.sentence("UNKNOWN.");
        OwedFurrows x = Check.of("FG191G191G191G191E100");
        for (int wrong : NO_NUMBER) {
            CHECK.due("wants(" + wrong + ")", x.wants(wrong), UNKNOWN);
        }
        CHECK.due("wants(4)", x.wants(4), UNKNOWN);
        CHECK.due("wants(3)", x.wants(3), 1);
    }

    // ---- promise 17

    private static void ridOfNothing() {
        CHECK.sentence("the least WALK (0 .. 99) by which it would OWE nothing");
        OwedFurrows x = Check.of("FG191G991E100E190E101E102E103");
        for (int eater = 0; eater < 5; eater++) {
            CHECK.due("it owes nothing: rid(" + eater + ")", x.rid(eater), 0);
            x.eat(eater, 0);
            CHECK.due("it owes at home: rid(" + eater + ")", x.rid(eater), 0);
        }
        x.eat(0, 1);
        x.eat(2, 1);
        CHECK.due("at home, and far: rid(0)", x.rid(0), 8);
        CHECK.due("a tramp is rid of all: rid(2)", x.rid(2), 0);
        CHECK.due("others stay as they are: rid(1)", x.rid(1), 0);
    }

    private static void ridOfTheLongestWay() {
        CHECK.sentence("the least WALK (0 .. 99)");
        OwedFurrows x = Check.of("FG291G491G091G991E100E190E101");
        for (int eater = 0; eater < 3; eater++) {
            x.cake(eater, 0, 1);
            x.cake(eater, 2, 3);
        }
        CHECK.due("1 and 2 and 4 and 9: rid(0)", x.rid(0), 16);
        CHECK.due("its own walk is nothing to it: rid(1)", x.rid(1), 16);
        CHECK.due("a tramp: rid(2)", x.rid(2), 0);
    }

    private static void ridIsTheLeast() {
        CHECK.sentence("the least WALK by which it would OWE nothing behind a MARCH");
        for (int kind : new int[] {0, 2, 3}) {
            for (int walk = 0; walk <= 9; walk++) {
                OwedFurrows x = Check.of("FG291G691E4" + walk + kind);
                x.cake(0, 0, 1);
                CHECK.due("rid(0)", x.rid(0), 6);
                x.march();
                CHECK.due("it owes nothing by " + walk, x.eater(0, 3) == 0, walk >= 6);
                CHECK.due("rid(0) behind a march", x.rid(0), walk >= 6 ? 0 : walk >= 2 ? 2 : 6);
            }
        }
    }

    private static void ridRefused() {
        CHECK.sentence("UNKNOWN.");
        OwedFurrows x = Check.of("FG191E100E100E100E100E100");
        for (int wrong : NO_NUMBER) {
            CHECK.due("rid(" + wrong + ")", x.rid(wrong), UNKNOWN);
        }
        CHECK.due("rid(4)", x.rid(4), 0);
        CHECK.due("rid(1) of one", Check.of("FG191E100").rid(1), UNKNOWN);
    }

    // ---- promise 18

    private static void judgeByNumber() {
        CHECK.sentence("n doings (1 .. 4) / BAD: n");
        OwedFurrows x = Check.of("FG191E100");
        for (int n : new int[] {-1, 0, 5, Integer.MIN_VALUE, Integer.MAX_VALUE}) {
            CHECK.due("judge(" + n + ", 0)", x.judge(n, 0), BAD);
            CHECK.due("judge(" + n + ", 999)", x.judge(n, 999), BAD);
            CHECK.due("judge(" + n + ", -1)", x.judge(n, -1), BAD);
        }
        for (int n = 1; n <= 4; n++) {
            CHECK.due("judge(" + n + ", 0)", x.judge(n, 0), NONE);
        }
    }

    private static void judgeByFigures() {
        CHECK.sentence("BAD: row (0 or more, 3 n figures at most)");
        OwedFurrows x = Check.of("FG191E100");
        long limit = 1;
        for (int n = 1; n <= 4; n++) {
            limit *= 1000;
            CHECK.due("judge(" + n + ", -1)", x.judge(n, -1), BAD);
            CHECK.due("judge(" + n + ", least)", x.judge(n, Long.MIN_VALUE), BAD);
            CHECK.due("judge(" + n + ", most)", x.judge(n, Long.MAX_VALUE), BAD);
            CHECK.due("judge(" + n + ", " + limit + ")", x.judge(n, limit), BAD);
            CHECK.due("judge(" + n + ", 2^32) is BAD", x.judge(n, 1L << 32) == BAD, n < 4);
            CHECK.due("all figures 9", x.judge(n, limit - 1), 0);
            CHECK.due("the last figure alone", x.judge(n, 1), n - 1);
        }
        CHECK.due("the first figure of twelve", x.judge(4, 100000000000L), NONE);
    }

    private static void judgeThePlace() {
        CHECK.sentence("the place of the first that can not be (or is not so); NONE: none");
        OwedFurrows x = Check.of("FG149E100");
        long[] rows = {200200200200L, 200200200209L, 200200209200L, 200209200200L, 209200200200L};
        int[] dues = {NONE, 3, 2, 1, 0};
        for (int i = 0; i < rows.length; i++) {
            CHECK.due("judge(4, " + rows[i] + ")", x.judge(4, rows[i]), dues[i]);
        }
        CHECK.due("the first of four", x.judge(4, 209209209209L), 0);
        CHECK.due("the first of two", x.judge(4, 209209), 2);
        CHECK.due("judge(1, 200)", x.judge(1, 200), NONE);
    }

    private static void judgeEaten() {
        CHECK.sentence("2, an EATER, a FIELD: EATEN");
        OwedFurrows x = Check.of("FG131G191E100E102E103");
        CHECK.due("three loaves by one", x.judge(3, 200200200), NONE);
        CHECK.due("four of three", x.judge(4, 200200200200L), 3);
        CHECK.due("an army and one", x.judge(2, 210200), NONE);
        CHECK.due("an army twice", x.judge(2, 210210), 1);
        CHECK.due("one, then an army", x.judge(2, 200210), NONE);
        CHECK.due("two, then an army", x.judge(3, 200200210), 2);
        CHECK.due("a choosy one twice", x.judge(2, 220221), 1);
        CHECK.due("a choosy one, a march, and again", x.judge(3, 220000221), NONE);
        CHECK.due("a choosy one, a harvest, and again", x.judge(3, 220100221), 2);
        CHECK.due("more loaves behind a harvest", x.judge(4, 210000100210L), NONE);
    }

    private static void judgeSown() {
        CHECK.sentence("3, 0, a FIELD: it is SOWN");
        OwedFurrows x = Check.of("FG192G191E100E102");
        CHECK.due("at first", x.judge(1, 300), 0);
        CHECK.due("one of two", x.judge(3, 200000300), 2);
        CHECK.due("two of two", x.judge(4, 200200000300L), NONE);
        CHECK.due("owed alone", x.judge(3, 200200300), 2);
        CHECK.due("two of one", x.judge(3, 211000301), NONE);
        CHECK.due("the other field", x.judge(3, 211000300), 2);
        CHECK.due("behind a harvest", x.judge(4, 210000100300L), 3);
        x.eat(1, 0);
        x.march();
        CHECK.due("sown now", x.judge(1, 300), NONE);
        CHECK.due("harvested", x.judge(2, 100300), 1);
    }

    private static void judgeLoaves() {
        CHECK.sentence("4, a FIELD, v: it has v LOAVES or more");
        OwedFurrows x = Check.of("FG191G111E100");
        for (int v = 0; v <= 9; v++) {
            CHECK.due("nine are " + v + " or more", x.judge(1, 400 + v), NONE);
            CHECK.due("one is " + v + " or more", x.judge(1, 410 + v), v <= 1 ? NONE : 0);
            CHECK.due("eight are " + v + " or more", x.judge(2, 200400 + v), v <= 8 ? NONE : 1);
            CHECK.due("none are " + v + " or more", x.judge(2, 201410 + v), v == 0 ? NONE : 1);
            CHECK.due("seventeen are", x.judge(4, 200000100400L + v), NONE);
        }
    }

    private static void judgeOwed() {
        CHECK.sentence("5, an EATER, a FIELD: it OWES it anything");
        OwedFurrows x = Check.of("FG191G291E100E100");
        CHECK.due("at first", x.judge(1, 500), 0);
        CHECK.due("eaten", x.judge(2, 200500), NONE);
        CHECK.due("eaten elsewhere", x.judge(2, 201500), 1);
        CHECK.due("eaten by another", x.judge(2, 210500), 1);
        CHECK.due("eaten, and brought", x.judge(3, 200000500), 2);
        CHECK.due("eaten, and too far", x.judge(3, 201000501), NONE);
        CHECK.due("a harvest rids nobody", x.judge(3, 200100500), NONE);
        x.eat(0, 0);
        CHECK.due("owed now", x.judge(1, 500), NONE);
    }

    private static void judgeOfNoSuchThing() {
        CHECK.sentence("the place of the first that can not be");
        OwedFurrows full = Check.of("FG191G191G191G191E100E100E100E100E100");
        CHECK.due("the last eater, the last field", full.judge(2, 243543), NONE);
        CHECK.due("the last field's loaves", full.judge(1, 439), NONE);
        for (long doing : new long[] {253, 244, 299, 304, 309, 440, 490, 553, 544, 599}) {
            CHECK.due("judge(1, " + doing + ")", full.judge(1, doing), 0);
            CHECK.due("judge(3, " + doing + ")", full.judge(3, doing), 2);
        }
    }

    /** The document tells six kinds of doings alone, two of them without an eater or a field. */
    private static void judgeOfNoDoing() {
        CHECK.sentence("told as three figures each (0, 0, 0 .. 5, an EATER, a FIELD)");
        OwedFurrows x = Check.of("FG191G191E100E100");
        x.cake(0, 0, 1);
        x.march();
        for (long doing : new long[] {1, 10, 11, 101, 110, 111, 310, 311, 600, 700, 800, 900}) {
            CHECK.due("judge(1, " + doing + ")", x.judge(1, doing), 0);
            CHECK.due("judge(4, " + doing + ")", x.judge(4, doing), 3);
        }
    }

    // ---- promise 19

    private static void dueShare(OwedFurrows x, int eater, int above, int below) {
        CHECK.due("share(" + eater + ", true)", x.share(eater, true), above);
        CHECK.due("share(" + eater + ", false)", x.share(eater, false), below);
    }

    private static void shareOfNothing() {
        CHECK.sentence("SHARE of an EATER: a FRACTION / in least terms");
        OwedFurrows x = Check.of("FG191G991E100E100E100E100E100");
        for (int eater = 0; eater < 5; eater++) {
            dueShare(x, eater, 0, 1);
        }
        x.eat(0, 1);
        dueShare(x, 0, 0, 1);
        x.eat(0, 0);
        x.march();
        dueShare(x, 0, 0, 1);
        x.eat(1, 0);
        dueShare(x, 1, 0, 1);
        dueShare(Check.of("FE000"), 0, 0, 1);
    }

    private static void shareOfAll() {
        CHECK.sentence("by how many in the mean FIELDS that are SOWN are more");
        OwedFurrows alone = Check.of("FG191G191G191G191E100");
        alone.cake(0, 0, 1);
        alone.cake(0, 2, 3);
        dueShare(alone, 0, 4, 1);
        OwedFurrows five = Check.of("FG195G195G195G195E100E100E100E100E100");
        for (int eater = 0; eater < 5; eater++) {
            five.cake(eater, 0, 1);
            five.cake(eater, 2, 3);
        }
        for (int eater = 0; eater < 5; eater++) {
            dueShare(five, eater, 4, 5);
        }
    }

    private static void shareInLeastTerms() {
        CHECK.sentence("in each order as likely / told above (upper = true), below, in least terms");
        OwedFurrows army = Check.of("FG194E102E100E100E100E100");
        for (int eater = 0; eater < 5; eater++) {
            army.eat(eater, 0);
        }
        dueShare(army, 0, 2, 5);
        for (int eater = 1; eater < 5; eater++) {
            dueShare(army, eater, 3, 20);
        }
        OwedFurrows half = Check.of("FG193E102E100E100E100");
        for (int eater = 0; eater < 4; eater++) {
            half.eat(eater, 0);
        }
        dueShare(half, 0, 1, 2);
        dueShare(half, 3, 1, 6);
        half.undo();
        dueShare(half, 0, 2, 3);
        dueShare(half, 3, 0, 1);
    }

    private static void shareRefused() {
        CHECK.sentence("UNKNOWN.");
        OwedFurrows x = Check.of("FG191E100E100E100E100E100");
        for (int wrong : NO_NUMBER) {
            CHECK.due("share(" + wrong + ", true)", x.share(wrong, true), UNKNOWN);
            CHECK.due("share(" + wrong + ", false)", x.share(wrong, false), UNKNOWN);
        }
        CHECK.due("share(1, true) of one", Check.of("FG191E100").share(1, true), UNKNOWN);
    }

    // ---- all of them

    private static OwedFurrows lived() {
        OwedFurrows x = Check.of("FG191G392E090E202E103");
        x.eat(0, 0);
        x.march();
        x.harvest();
        x.keep(0);
        x.cake(1, 0, 1);
        x.march();
        x.eat(0, 1);
        x.keep(1);
        x.eat(2, 1);
        x.came(4, 1);
        x.seed(6);
        return x;
    }

    private static void nothingIsChanged() {
        CHECK.sentence("In what follows nothing is changed.");
        Map<String, Check.Call> calls = Map.of(
                "ahead(0, 9)", x -> x.ahead(0, 9), "ahead(1, 0)", x -> x.ahead(1, 0),
                "wants(1)", x -> x.wants(1), "rid(0)", x -> x.rid(0),
                "judge(4, ..)", x -> x.judge(4, 211000100200L),
                "judge(2, ..), not so", x -> x.judge(2, 201309),
                "share(0, true)", x -> x.share(0, true), "about(7)", x -> x.about(7),
                "eater(2, 4)", x -> x.eater(2, 4), "eater(2, 5)", x -> x.eater(2, 5));
        calls.forEach((name, call) -> CHECK.changesNothing(name, ComingBoundariesTest::lived, call,
                call.on(lived())));
    }
}
