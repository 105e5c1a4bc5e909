import java.util.function.Consumer;

/** Boundary cases of promises 10 to 14, each under the words of the document that name it. */
public final class ActsBoundariesTest {
    private static final Check CHECK = new Check();
    private static final int LATE = OwedFurrows.LATE;
    private static final int BAD = OwedFurrows.BAD;
    private static final int UNKNOWN = OwedFurrows.UNKNOWN;

    public static void main(String[] args) {
        theLastLoaf();
        theLastTwoLoaves();
        choosyOnes();
        eatRefusedInTurn();
        ninetyNineOwed();
        ninetyNineOwedByAnArmy();
        theLastCake();
        cakeOfAnArmy();
        cakeOfAChoosyOne();
        cakeRefusedInTurn();
        ninetyNineOwedByCakes();
        marchOfNobody();
        marchToTheNearest();
        marchToTheLeastOfLikeOnes();
        marchAsFarAsTheWalk();
        marchWithTheWalkThatIsLeft();
        marchOfATramp();
        marchFromHomeEachTime();
        marchLeavesSeedTillHarvest();
        ninetyNineSeed();
        harvestByNeed();
        harvestOfNinetyNine();
        harvestTakesAllSeed();
        harvestOfNothing();
        undoOfNothing();
        undoOfFourteen();
        undoAroundTheRow();
        undoOfEachAct();
        undoIsNoAct();
        CHECK.end();
    }

    /** Loaves of field 0, and of field 1 if there are two, are 99 behind twelve such years. */
    private static void fillBarns(OwedFurrows x, Consumer<OwedFurrows> sowing) {
        for (int year = 0; year < 12; year++) {
            sowing.accept(x);
            x.march();
            x.harvest();
        }
    }

    // ---- promise 10

    private static void theLastLoaf() {
        CHECK.sentence("an EATER has 1 LOAF of a FIELD that has so many / LATE: not so many LOAVES");
        for (int kind : new int[] {0, 1, 3}) {
            OwedFurrows x = Check.of("FG112G191E00" + kind + "E00" + kind);
            CHECK.due("eat(0, 0) of one loaf", x.eat(0, 0), 1);
            CHECK.due("field(0, 3)", x.field(0, 3), 0);
            CHECK.due("eat(1, 0) of none", x.eat(1, 0), LATE);
            CHECK.due("owes(1, 0)", x.owes(1, 0), 0);
            CHECK.due("about(8)", x.about(8), 1);
            CHECK.due("eat(1, 1) of another field", x.eat(1, 1), 1);
        }
    }

    private static void theLastTwoLoaves() {
        CHECK.sentence("an EATER has 1 LOAF (ARMY 2) of a FIELD that has so many");
        OwedFurrows x = Check.of("FG111G121G131E002");
        CHECK.due("eat(0, 0) of one", x.eat(0, 0), LATE);
        CHECK.due("field(0, 3)", x.field(0, 3), 1);
        CHECK.due("eat(0, 1) of two", x.eat(0, 1), 2);
        CHECK.due("field(1, 3)", x.field(1, 3), 0);
        CHECK.due("eat(0, 1) of none", x.eat(0, 1), LATE);
        CHECK.due("eat(0, 2) of three", x.eat(0, 2), 2);
        CHECK.due("eat(0, 2) of one", x.eat(0, 2), LATE);
        CHECK.due("field(2, 3)", x.field(2, 3), 1);
        CHECK.due("about(8)", x.about(8), 2);
    }

    private static void choosyOnes() {
        CHECK.sentence("a CHOOSY one eats only if it OWES nothing anywhere");
        OwedFurrows x = Check.of("FG191G991E103E100");
        x.eat(1, 0);
        x.eat(1, 1);
        CHECK.due("others owe: eat(0, 1)", x.eat(0, 1), 1);
        CHECK.due("it owes there: eat(0, 1)", x.eat(0, 1), LATE);
        CHECK.due("it owes elsewhere: eat(0, 0)", x.eat(0, 0), LATE);
        x.march();
        CHECK.due("it was too far: eat(0, 0)", x.eat(0, 0), LATE);
        x.harvest();
        CHECK.due("a harvest rids nobody: eat(0, 0)", x.eat(0, 0), LATE);
        OwedFurrows y = Check.of("FG191G991E103");
        y.eat(0, 0);
        y.march();
        CHECK.due("it has come: eat(0, 1)", y.eat(0, 1), 1);
        y.undo();
        CHECK.due("undone: eat(0, 0)", y.eat(0, 0), 1);
    }

    private static void eatRefusedInTurn() {
        CHECK.sentence("UNKNOWN: eater, field; LATE / Of several what is told first.");
        OwedFurrows x = Check.of("FG111E000E003");
        x.eat(1, 0);
        for (int wrong : new int[] {-1, 2, 4, 5, Integer.MIN_VALUE, Integer.MAX_VALUE}) {
            CHECK.due("eat(" + wrong + ", 0)", x.eat(wrong, 0), UNKNOWN);
            CHECK.due("eat(1, " + wrong + ")", x.eat(1, wrong), UNKNOWN);
            CHECK.due("eat(" + wrong + ", " + wrong + ")", x.eat(wrong, wrong), UNKNOWN);
        }
        CHECK.due("eat(1, 1)", x.eat(1, 1), UNKNOWN);
        CHECK.due("eat(0, 0)", x.eat(0, 0), LATE);
        CHECK.due("eat(1, 0)", x.eat(1, 0), LATE);
        CHECK.due("about(8)", x.about(8), 1);
    }

    private static void ninetyNineOwed() {
        CHECK.sentence("and OWES it as much SEED more (99 at most)");
        OwedFurrows x = Check.of("FG091E900E001");
        fillBarns(x, y -> y.eat(1, 0));
        for (int owed = 1; owed <= 90; owed++) {
            CHECK.due("eat(0, 0)", x.eat(0, 0), owed);
        }
        x.eat(1, 0);
        x.march();
        CHECK.due("harvest()", x.harvest(), 17);
        for (int owed = 91; owed <= 99; owed++) {
            CHECK.due("eat(0, 0)", x.eat(0, 0), owed);
        }
        CHECK.due("eat(0, 0) owing 99", x.eat(0, 0), 99);
        CHECK.due("the loaf is eaten: field(0, 3)", x.field(0, 3), 7);
        CHECK.due("owes(0, 0)", x.owes(0, 0), 99);
        CHECK.due("about(5)", x.about(5), 99);
        x.undo();
        CHECK.due("undone: field(0, 3)", x.field(0, 3), 8);
        CHECK.due("undone: owes(0, 0)", x.owes(0, 0), 99);
        x.undo();
        CHECK.due("undone: owes(0, 0)", x.owes(0, 0), 98);
    }

    private static void ninetyNineOwedByAnArmy() {
        CHECK.sentence("armies that eat by two and owe by two / (99 at most)");
        OwedFurrows x = Check.of("FG091E902E001");
        fillBarns(x, y -> y.eat(1, 0));
        for (int owed = 2; owed <= 96; owed += 2) {
            CHECK.due("eat(0, 0)", x.eat(0, 0), owed);
        }
        x.eat(1, 0);
        x.march();
        CHECK.due("harvest()", x.harvest(), 11);
        CHECK.due("eat(0, 0)", x.eat(0, 0), 98);
        CHECK.due("eat(0, 0) owing 98", x.eat(0, 0), 99);
        CHECK.due("both loaves are eaten", x.field(0, 3), 7);
        CHECK.due("eat(0, 0) owing 99", x.eat(0, 0), 99);
        CHECK.due("both loaves are eaten", x.field(0, 3), 5);
        x.undo();
        x.undo();
        CHECK.due("undone: owes(0, 0)", x.owes(0, 0), 98);
        CHECK.due("undone: field(0, 3)", x.field(0, 3), 9);
    }

    // ---- promise 11

    private static void theLastCake() {
        CHECK.sentence("LATE: one of both has not so many LOAVES");
        OwedFurrows x = Check.of("FG111G121G191E000");
        CHECK.due("cake(0, 0, 1)", x.cake(0, 0, 1), 2);
        CHECK.due("field(0, 3)", x.field(0, 3), 0);
        CHECK.due("field(1, 3)", x.field(1, 3), 1);
        CHECK.due("the one has none: cake(0, 0, 1)", x.cake(0, 0, 1), LATE);
        CHECK.due("the other has none: cake(0, 1, 0)", x.cake(0, 1, 0), LATE);
        CHECK.due("nothing is taken: field(1, 3)", x.field(1, 3), 1);
        CHECK.due("nothing is owed: owes(0, 1)", x.owes(0, 1), 1);
        CHECK.due("cake(0, 1, 2)", x.cake(0, 1, 2), 4);
        CHECK.due("about(8)", x.about(8), 2);
    }

    private static void cakeOfAnArmy() {
        CHECK.sentence("CAKE: likewise of two FIELDS at once, as much of each");
        OwedFurrows x = Check.of("FG111G121G121G131E002");
        CHECK.due("one and two: cake(0, 0, 1)", x.cake(0, 0, 1), LATE);
        CHECK.due("two and one: cake(0, 1, 0)", x.cake(0, 1, 0), LATE);
        CHECK.due("two and two: cake(0, 1, 2)", x.cake(0, 1, 2), 4);
        CHECK.due("field(1, 3)", x.field(1, 3), 0);
        CHECK.due("field(2, 3)", x.field(2, 3), 0);
        CHECK.due("owes(0, 1)", x.owes(0, 1), 2);
        CHECK.due("owes(0, 2)", x.owes(0, 2), 2);
        CHECK.due("three and none: cake(0, 3, 1)", x.cake(0, 3, 1), LATE);
        CHECK.due("about(8)", x.about(8), 1);
    }

    private static void cakeOfAChoosyOne() {
        CHECK.sentence("LATE: .. or it is CHOOSY and OWES");
        OwedFurrows x = Check.of("FG191G291G391G491E103");
        CHECK.due("it owes nothing: cake(0, 0, 1)", x.cake(0, 0, 1), 2);
        CHECK.due("it owes both: cake(0, 0, 1)", x.cake(0, 0, 1), LATE);
        CHECK.due("it owes elsewhere: cake(0, 2, 3)", x.cake(0, 2, 3), LATE);
        CHECK.due("it owes one: cake(0, 1, 2)", x.cake(0, 1, 2), LATE);
        x.march();
        CHECK.due("one of them was too far", x.about(5), 1);
        CHECK.due("it owes one: cake(0, 2, 3)", x.cake(0, 2, 3), LATE);
        CHECK.due("about(8)", x.about(8), 2);
    }

    private static void cakeRefusedInTurn() {
        CHECK.sentence("UNKNOWN: eater, both; BAD: both are one; LATE / what is told first");
        OwedFurrows x = Check.of("FG111G111E003");
        x.cake(0, 0, 1);
        for (int wrong : new int[] {-1, 2, 4, 5, Integer.MIN_VALUE, Integer.MAX_VALUE}) {
            CHECK.due("cake(" + wrong + ", 0, 1)", x.cake(wrong, 0, 1), UNKNOWN);
            CHECK.due("cake(" + wrong + ", 0, 0)", x.cake(wrong, 0, 0), UNKNOWN);
            CHECK.due("cake(0, " + wrong + ", 1)", x.cake(0, wrong, 1), UNKNOWN);
            CHECK.due("cake(0, 0, " + wrong + ")", x.cake(0, 0, wrong), UNKNOWN);
            CHECK.due("cake(0, both " + wrong + ")", x.cake(0, wrong, wrong), UNKNOWN);
        }
        CHECK.due("cake(0, 0, 0)", x.cake(0, 0, 0), BAD);
        CHECK.due("cake(0, 1, 1)", x.cake(0, 1, 1), BAD);
        CHECK.due("cake(0, 0, 1)", x.cake(0, 0, 1), LATE);
        CHECK.due("about(8)", x.about(8), 1);
    }

    private static void ninetyNineOwedByCakes() {
        CHECK.sentence("CAKE: likewise / how much it OWES together then / (99 at most)");
        OwedFurrows x = Check.of("FG091G091E900E001");
        fillBarns(x, y -> y.cake(1, 0, 1));
        x.eat(0, 1);
        for (int cakes = 1; cakes <= 90; cakes++) {
            CHECK.due("cake(0, 0, 1)", x.cake(0, 0, 1), 2 * cakes + 1);
        }
        x.cake(1, 0, 1);
        x.march();
        x.harvest();
        for (int cakes = 91; cakes <= 98; cakes++) {
            CHECK.due("cake(0, 1, 0)", x.cake(0, 1, 0), 2 * cakes + 1);
        }
        CHECK.due("98 and 99: cake(0, 0, 1)", x.cake(0, 0, 1), 198);
        CHECK.due("99 and 99: cake(0, 0, 1)", x.cake(0, 0, 1), 198);
        CHECK.due("field(0, 3)", x.field(0, 3), 7);
        CHECK.due("field(1, 3)", x.field(1, 3), 6);
    }

    // ---- promise 12

    private static void marchOfNobody() {
        CHECK.sentence("A MARCH: by number each EATER");
        for (String text : new String[] {"F", "FG111", "FE990", "FG111E000"}) {
            OwedFurrows x = Check.of(text);
            CHECK.due("march() in " + text, x.march(), 0);
            CHECK.due("it is an act", x.about(8), 1);
            CHECK.due("no year goes by", x.about(2), 0);
            CHECK.due("no seed", x.about(4), 0);
        }
    }

    private static void marchToTheNearest() {
        CHECK.sentence("to the nearest FIELD that it OWES anything");
        OwedFurrows x = Check.of("FG091G591G391G491E420");
        x.cake(0, 0, 2);
        CHECK.due("3 is nearer than 0, and 4 is not owed", x.march(), 4);
        OwedFurrows y = Check.of("FG091G991E540");
        y.cake(0, 0, 1);
        CHECK.due("9 is nearer than 0", y.march(), 2);
        OwedFurrows z = Check.of("FG991G091E450");
        z.cake(0, 0, 1);
        CHECK.due("0 is nearer than 9", z.march(), 2);
        OwedFurrows far = Check.of("FG991E090");
        far.eat(0, 0);
        CHECK.due("from one end of the road to the other", far.march(), 1);
    }

    private static void marchToTheLeastOfLikeOnes() {
        CHECK.sentence("(of like ones the least)");
        OwedFurrows left = Check.of("FG391G791E520");
        left.cake(0, 0, 1);
        CHECK.due("3 and 7 from 5", left.march(), 1);
        OwedFurrows right = Check.of("FG791G391E520");
        right.cake(0, 0, 1);
        CHECK.due("7 and 3 from 5", right.march(), 1);
        OwedFurrows behind = Check.of("FG591G791G391E520");
        behind.cake(0, 1, 2);
        CHECK.due("fields 1 and 2", behind.march(), 2);
        OwedFurrows same = Check.of("FG791G791G791G791E520");
        same.cake(0, 0, 1);
        same.cake(0, 2, 3);
        CHECK.due("four at one place", same.march(), 15);
        OwedFurrows then = Check.of("FG591G691G491G391E513");
        then.cake(0, 1, 2);
        CHECK.due("6 and 4 from 5", then.march(), 2);
    }

    private static void marchAsFarAsTheWalk() {
        CHECK.sentence("if that is no farther than its WALK that is left");
        for (int kind : new int[] {0, 2, 3}) {
            for (int walk = 0; walk <= 9; walk++) {
                for (int place = 0; place <= 9; place++) {
                    OwedFurrows x = Check.of("FG" + place + "91E0" + walk + kind);
                    x.eat(0, 0);
                    boolean comes = place <= walk;
                    CHECK.due("march() to " + place + " by " + walk, x.march(), comes ? 1 : 0);
                    CHECK.due("about(5)", x.about(5), comes ? 0 : kind == 2 ? 2 : 1);
                    CHECK.due("about(4)", x.about(4), !comes ? 0 : kind == 2 ? 2 : 1);
                }
            }
        }
    }

    private static void marchWithTheWalkThatIsLeft() {
        CHECK.sentence("its WALK that is left is less by the way; and so on from there");
        for (int walk = 0; walk <= 9; walk++) {
            OwedFurrows x = Check.of("FG191G391G691G991E0" + walk + "0");
            x.cake(0, 0, 1);
            x.cake(0, 2, 3);
            int due = walk < 1 ? 0 : walk < 3 ? 1 : walk < 6 ? 3 : walk < 9 ? 7 : 15;
            CHECK.due("march() by " + walk, x.march(), due);
            CHECK.due("about(5)", x.about(5), 4 - Integer.bitCount(due));
        }
        OwedFurrows back = Check.of("FG491G691E540");
        back.cake(0, 0, 1);
        CHECK.due("1 there and 2 back", back.march(), 3);
        OwedFurrows less = Check.of("FG491G691E520");
        less.cake(0, 0, 1);
        CHECK.due("1 there, and 1 is left", less.march(), 1);
    }

    private static void marchOfATramp() {
        CHECK.sentence("(TRAMP: however far)");
        OwedFurrows x = Check.of("FG291G491G091G991E101");
        x.cake(0, 0, 1);
        x.cake(0, 2, 3);
        CHECK.due("march()", x.march(), 15);
        CHECK.sentence("till it OWES nothing");
        CHECK.due("about(5)", x.about(5), 0);
        CHECK.due("march() again", x.march(), 15);
        CHECK.due("about(4)", x.about(4), 4);
    }

    private static void marchFromHomeEachTime() {
        CHECK.sentence("each EATER goes from its HOME");
        OwedFurrows x = Check.of("FG391G691E030");
        x.cake(0, 0, 1);
        CHECK.due("march()", x.march(), 1);
        CHECK.due("march() again", x.march(), 1);
        CHECK.due("owes(0, 1)", x.owes(0, 1), 1);
        OwedFurrows y = Check.of("FG391E030");
        for (int year = 0; year < 3; year++) {
            y.eat(0, 0);
            CHECK.due("its whole walk each time", y.march(), 1);
            y.harvest();
        }
    }

    private static void marchLeavesSeedTillHarvest() {
        CHECK.sentence("the FIELD has as much SEED more as it OWES there, it OWES nothing there");
        OwedFurrows x = Check.of("FG193E100E102");
        x.eat(0, 0);
        CHECK.due("march() with 1 of 3", x.march(), 0);
        x.eat(0, 0);
        CHECK.due("march() with 2 of 3", x.march(), 0);
        CHECK.due("owes(0, 0)", x.owes(0, 0), 0);
        x.eat(1, 0);
        CHECK.due("march() with 4 of 3", x.march(), 1);
        CHECK.due("field(0, 4)", x.field(0, 4), 4);
    }

    /** Eater 0 is held back from field 0 by the nearer field 1, so that it can owe from year to year. */
    private static OwedFurrows owing98() {
        OwedFurrows x = Check.of("FG391G691E520E001");
        for (int year = 0; year < 12; year++) {
            x.eat(0, 1);
            x.eat(1, 0);
            x.march();
            x.harvest();
        }
        for (int owed = 1; owed <= 90; owed++) {
            x.eat(0, 0);
        }
        x.eat(0, 1);
        x.eat(1, 0);
        x.march();
        x.harvest();
        for (int owed = 91; owed <= 98; owed++) {
            x.eat(0, 0);
        }
        return x;
    }

    private static void ninetyNineSeed() {
        CHECK.sentence("the FIELD has as much SEED more as it OWES there (99 at most)");
        for (int more = 0; more <= 3; more++) {
            OwedFurrows x = owing98();
            CHECK.due("owes(0, 0)", x.owes(0, 0), 98);
            for (int loaf = 0; loaf < more; loaf++) {
                x.eat(1, 0);
            }
            CHECK.due("march()", x.march(), 1);
            CHECK.due("field(0, 4), 98 and " + more, x.field(0, 4), Math.min(99, 98 + more));
            CHECK.due("about(5)", x.about(5), 0);
            x.eat(1, 0);
            x.march();
            CHECK.due("field(0, 4) and one more", x.field(0, 4), 99);
            CHECK.due("owes(1, 0)", x.owes(1, 0), 0);
            x.undo();
            CHECK.due("undone: field(0, 4)", x.field(0, 4), Math.min(99, 98 + more));
        }
    }

    // ---- promise 13

    private static void harvestByNeed() {
        CHECK.sentence("each FIELD that is SOWN has as many LOAVES more as its YIELD");
        for (int need = 1; need <= 9; need++) {
            for (int seed = 0; seed <= 9; seed++) {
                OwedFurrows x = Check.of("FG09" + need + "E000");
                for (int loaf = 0; loaf < seed; loaf++) {
                    x.eat(0, 0);
                }
                CHECK.due("march()", x.march(), seed >= need ? 1 : 0);
                CHECK.due("harvest() of " + seed + " for " + need, x.harvest(),
                        9 - seed + (seed >= need ? 9 : 0));
            }
        }
        OwedFurrows least = Check.of("FG011E000");
        least.eat(0, 0);
        least.march();
        CHECK.due("a yield of 1", least.harvest(), 1);
    }

    private static void harvestOfNinetyNine() {
        CHECK.sentence("has as many LOAVES more as its YIELD (99 at most)");
        for (int eaten = 6; eaten <= 9; eaten++) {
            OwedFurrows x = Check.of("FG091E001");
            for (int year = 0; year < 11; year++) {
                x.eat(0, 0);
                x.march();
                x.harvest();
            }
            for (int loaf = 0; loaf < eaten; loaf++) {
                x.eat(0, 0);
            }
            x.march();
            CHECK.due("harvest() on " + (97 - eaten), x.harvest(), Math.min(99, 106 - eaten));
            x.eat(0, 0);
            x.march();
            CHECK.due("harvest() next year", x.harvest(), 99);
            x.undo();
            CHECK.due("undone: field(0, 3)", x.field(0, 3), Math.min(99, 106 - eaten) - 1);
            CHECK.due("undone: field(0, 4)", x.field(0, 4), 1);
        }
    }

    private static void harvestTakesAllSeed() {
        CHECK.sentence("there is no SEED anywhere then; THE YEAR is one more");
        OwedFurrows x = Check.of("FG099G191E001E980");
        x.cake(0, 0, 1);
        x.eat(1, 0);
        x.eat(1, 1);
        x.march();
        CHECK.due("about(4)", x.about(4), 3);
        x.eat(1, 1);
        CHECK.due("harvest()", x.harvest(), 7 + 6 + 9);
        CHECK.due("field(0, 4)", x.field(0, 4), 0);
        CHECK.due("field(1, 4)", x.field(1, 4), 0);
        CHECK.due("about(6)", x.about(6), 0);
        CHECK.due("what is owed stays", x.about(5), 2);
        CHECK.due("about(2)", x.about(2), 1);
        CHECK.due("harvest() without seed", x.harvest(), 22);
        CHECK.due("about(2)", x.about(2), 2);
    }

    private static void harvestOfNothing() {
        CHECK.sentence("A HARVEST: LOAVES of all.");
        for (String text : new String[] {"F", "FE000"}) {
            OwedFurrows x = Check.of(text);
            CHECK.due("harvest() in " + text, x.harvest(), 0);
            CHECK.due("about(2)", x.about(2), 1);
            CHECK.due("about(8)", x.about(8), 1);
        }
        CHECK.due("harvest() without a march", Check.of("FG091G011").harvest(), 10);
    }

    // ---- promise 14

    private static void undoOfNothing() {
        CHECK.sentence("The last ACT is undone: how many are left. LATE: there is none.");
        CHECK.due("undo() at first", new OwedFurrows().undo(), LATE);
        OwedFurrows x = Check.of("FG191E100");
        CHECK.due("undo() in a new country", x.undo(), LATE);
        x.eat(0, 0);
        CHECK.due("undo() of one", x.undo(), 0);
        CHECK.due("undo() of none", x.undo(), LATE);
        CHECK.due("nothing is changed", x.about(3), 9);
    }

    private static void undoOfFourteen() {
        CHECK.sentence("ACTS are a row (14 at most; when it is full, the first one is forgotten)");
        for (int acts = 12; acts <= 30; acts++) {
            OwedFurrows x = Check.of("FG191E100");
            for (int act = 0; act < acts; act++) {
                x.harvest();
            }
            int known = Math.min(14, acts);
            CHECK.due("about(8)", x.about(8), known);
            for (int left = known - 1; left >= 0; left--) {
                CHECK.due("undo()", x.undo(), left);
                CHECK.due("about(2)", x.about(2), acts - known + left);
            }
            CHECK.due("undo() of what is forgotten", x.undo(), LATE);
            CHECK.due("about(2)", x.about(2), acts - known);
        }
    }

    private static void undoAroundTheRow() {
        CHECK.sentence("(14 at most; when it is full, the first one is forgotten)");
        OwedFurrows x = new OwedFurrows();
        int year = 0;
        int known = 0;
        for (int round = 1; round <= 14; round++) {
            for (int act = 0; act < 11; act++) {
                x.harvest();
                year++;
                known = Math.min(14, known + 1);
            }
            for (int back = 0; back < round && known > 0; back++) {
                known--;
                year--;
                CHECK.due("undo()", x.undo(), known);
            }
            CHECK.due("about(8)", x.about(8), known);
            CHECK.due("about(2)", x.about(2), year);
        }
    }

    private static void undoOfEachAct() {
        CHECK.sentence("The last ACT is undone");
        OwedFurrows x = Check.of("FG191G292E090E203");
        Object first = Check.standOf(x);
        x.cake(1, 1, 0);
        Object second = Check.standOf(x);
        x.eat(0, 1);
        Object third = Check.standOf(x);
        x.march();
        Object fourth = Check.standOf(x);
        x.harvest();
        x.undo();
        CHECK.due("behind a harvest undone", Check.standOf(x), fourth);
        x.undo();
        CHECK.due("behind a march undone", Check.standOf(x), third);
        x.undo();
        CHECK.due("behind bread undone", Check.standOf(x), second);
        x.undo();
        CHECK.due("behind a cake undone", Check.standOf(x), first);
    }

    private static void undoIsNoAct() {
        CHECK.sentence("ACTS (EATEN, CAKES, MARCHES, HARVESTS) are a row");
        OwedFurrows x = Check.of("FG191G191E100E103");
        x.eat(1, 0);
        x.harvest();
        x.undo();
        CHECK.due("undo() of the one before", x.undo(), 0);
        CHECK.due("about(5)", x.about(5), 0);
        CHECK.due("undo() of an undo", x.undo(), LATE);
        x.eat(1, 0);
        x.eat(1, 0);
        x.cake(1, 0, 1);
        x.cake(0, 0, 0);
        x.eat(5, 5);
        x.keep(0);
        x.ahead(0, 9);
        x.years(30);
        x.judge(2, 200000);
        x.rests(0, 1, 0, 0);
        x.came(1, 1);
        CHECK.due("refused ones and other calls are none", x.about(8), 1);
    }
}
