/** Promises 23 to 26: rests, home, seed, years. */
public final class ChancesTest {
    private static final Check CHECK = new Check();

    public static void main(String[] args) {
        rests();
        restsRefused();
        home();
        seed();
        years();
        yearsOfOneLot();
        nothingIsChanged();
        CHECK.end();
    }

    private static void dueRests(String what, OwedFurrows x, int many, int first) {
        CHECK.due(what + ": how many", x.rests(0, 1, 0, 0), many);
        CHECK.due(what + ": the first", x.rests(0, 1, 0, 1), first);
    }

    private static void rests() {
        dueRests("bread without a way", Check.of("FG191E100E500"), 1, 11);
        dueRests("too long a way for both", Check.of("FG191E990E990"), 1, 0);
        dueRests("each would rather have the other go", Check.of("FG191E690E690"), 2, 1);
        dueRests("bread and seed are worth the way, just so", Check.of("FG191E890E890"), 3, 0);
        dueRests("as much either way", Check.of("FG199E540E540"), 4, 0);
        dueRests("a loaf for the first", Check.of("FG111E100E100"), 2, 10);
        dueRests("too few for armies", Check.of("FG111E102E102"), 4, 0);
        OwedFurrows owing = Check.of("FG199G991E103E100");
        owing.eat(0, 1);
        dueRests("a choosy one that owes can not eat", owing, 2, 1);
        OwedFurrows sown = Check.of("FG191E690E690");
        sown.eat(1, 0);
        sown.march();
        dueRests("sown already: nobody goes", sown, 1, 0);
        OwedFurrows others = Check.of("FG192E690E690E100");
        others.eat(2, 0);
        dueRests("others march too", others, 2, 1);
    }

    private static void restsRefused() {
        OwedFurrows x = Check.of("FG191E100E500");
        CHECK.due("rests(-1, 1, 0, 0)", x.rests(-1, 1, 0, 0), OwedFurrows.UNKNOWN);
        CHECK.due("rests(2, 1, 0, 0)", x.rests(2, 1, 0, 0), OwedFurrows.UNKNOWN);
        CHECK.due("rests(0, -1, 0, 0)", x.rests(0, -1, 0, 0), OwedFurrows.UNKNOWN);
        CHECK.due("rests(0, 2, 0, 0)", x.rests(0, 2, 0, 0), OwedFurrows.UNKNOWN);
        CHECK.due("rests(0, 1, -1, 0)", x.rests(0, 1, -1, 0), OwedFurrows.UNKNOWN);
        CHECK.due("rests(0, 1, 1, 0)", x.rests(0, 1, 1, 0), OwedFurrows.UNKNOWN);
        CHECK.due("rests(0, 0, 0, 0)", x.rests(0, 0, 0, 0), OwedFurrows.BAD);
        CHECK.due("rests(0, 1, 0, -1)", x.rests(0, 1, 0, -1), OwedFurrows.BAD);
        CHECK.due("rests(0, 1, 0, 2)", x.rests(0, 1, 0, 2), OwedFurrows.BAD);
        CHECK.due("UNKNOWN is told first", x.rests(0, 0, 1, 2), OwedFurrows.UNKNOWN);
    }

    private static void dueHome(OwedFurrows x, int field, int tenths, int above, int below) {
        String call = "home(" + field + ", " + tenths + ", ";
        CHECK.due(call + "true)", x.home(field, tenths, true), above);
        CHECK.due(call + "false)", x.home(field, tenths, false), below);
    }

    private static void home() {
        OwedFurrows x = Check.of("FG192G191E100E100E100");
        dueHome(x, 0, 0, 0, 1);
        for (int eater = 0; eater < 3; eater++) {
            x.eat(eater, 0);
        }
        x.eat(2, 1);
        dueHome(x, 0, 0, 1, 1);
        dueHome(x, 0, 10, 0, 1);
        dueHome(x, 0, 3, 98, 125);
        dueHome(x, 0, 5, 1, 2);
        dueHome(x, 0, 7, 27, 125);
        dueHome(x, 1, 7, 3, 10);
        CHECK.due("home(-1, 5, true)", x.home(-1, 5, true), OwedFurrows.UNKNOWN);
        CHECK.due("home(2, 11, true): UNKNOWN is told first", x.home(2, 11, true),
                OwedFurrows.UNKNOWN);
        CHECK.due("home(0, -1, true)", x.home(0, -1, true), OwedFurrows.BAD);
        CHECK.due("home(0, 11, false)", x.home(0, 11, false), OwedFurrows.BAD);
        x.march();
        dueHome(x, 0, 10, 1, 1);
        OwedFurrows all = Check.of("FG195E100E100E100E100E100");
        for (int eater = 0; eater < 5; eater++) {
            all.eat(eater, 0);
        }
        dueHome(all, 0, 1, 59049, 100000);
        dueHome(Check.of("FG195"), 0, 5, 0, 1);
    }

    private static void seed() {
        OwedFurrows x = new OwedFurrows();
        CHECK.due("seed at first", x.seed(Long.MIN_VALUE), 0);
        CHECK.due("seed(-1)", x.seed(-1), Long.MIN_VALUE);
        CHECK.due("seed(0)", x.seed(0), -1);
        x.seed(12);
        x.years(1);
        CHECK.due("seed behind one time", x.seed(0),
                12 * 6364136223846793005L + 1442695040888963407L);
    }

    private static void years() {
        OwedFurrows x = Check.of("FG199E100");
        CHECK.due("years(0)", x.years(0), OwedFurrows.BAD);
        CHECK.due("years(31)", x.years(31), OwedFurrows.BAD);
        CHECK.due("years(-1)", x.years(-1), OwedFurrows.BAD);
        CHECK.due("refused: the seed stays", x.seed(0), 0);
        long seed = 0;
        int loaves = 9;
        int together = 0;
        for (int time = 0; time < 30; time++) {
            seed = seed * 6364136223846793005L + 1442695040888963407L;
            // With one field of need 9 and one eater only lot 0 does anything to the loaves.
            loaves -= (seed >>> 33) % 28 == 0 && loaves > 0 ? 1 : 0;
            together += loaves;
        }
        CHECK.due("years(30)", x.years(30), together);
        CHECK.due("the seed behind years(30)", x.seed(5), seed);
        CHECK.due("years of an empty country", new OwedFurrows().years(30), 0);
    }

    /** For each lot a seed that leads to it at once: what it does is seen in the loaves. */
    private static void yearsOfOneLot() {
        OwedFurrows x = Check.of("FG191G291G391G491E102E202E303E400E503");
        x.eat(4, 3);
        x.eat(3, 3);
        x.march();
        for (int lot = 0; lot < 28; lot++) {
            x.seed(seedOf(lot, -1));
            CHECK.due("years(1) by lot " + lot, x.years(1), 34 + changeBy(lot));
        }
        CHECK.due("no loaf is gone in truth", x.about(3), 34);
        OwedFurrows y = Check.of("FG191E100");
        y.eat(0, 0);
        for (int lot = 20; lot < 25; lot++) {
            y.seed(seedOf(lot, 25));
            CHECK.due("lot " + lot + ", then a harvest", y.years(2), 8 + 17);
        }
        y.seed(seedOf(19, 25));
        CHECK.due("lot 19, then a harvest", y.years(2), 8 + 8);
    }

    private static int changeBy(int lot) {
        if (lot >= 25) {
            return 9;
        }
        boolean isArmy = lot < 8;
        boolean isProud = lot >= 16;
        return lot >= 20 || isProud ? 0 : isArmy ? -2 : -1;
    }

    /** A seed that leads to a lot at once, and then to another (-1: to any). */
    private static long seedOf(int lot, int then) {
        for (long seed = 0; seed < 1_000_000; seed++) {
            long next = step(seed);
            if (lotOf(next) == lot && (then == -1 || lotOf(step(next)) == then)) {
                return seed;
            }
        }
        throw new IllegalStateException("no seed leads to lot " + lot);
    }

    private static long step(long seed) {
        return seed * 6364136223846793005L + 1442695040888963407L;
    }

    private static long lotOf(long seed) {
        return (seed >>> 33) % 28;
    }

    private static void nothingIsChanged() {
        OwedFurrows x = Check.of("FG132G241E190E202E201");
        x.eat(0, 0);
        x.cake(2, 0, 1);
        Object before = Check.allOf(x);
        x.rests(0, 2, 1, 0);
        x.home(1, 5, true);
        long seed = x.seed(9);
        x.years(30);
        x.seed(seed);
        CHECK.due("all behind questions", Check.allOf(x), before);
    }
}
