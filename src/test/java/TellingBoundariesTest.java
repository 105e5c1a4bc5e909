/** Boundary cases of promises 6 to 9, each under the words of the document that name it. */
public final class TellingBoundariesTest {
    private static final Check CHECK = new Check();
    private static final int BAD = OwedFurrows.BAD;
    private static final int UNKNOWN = OwedFurrows.UNKNOWN;
    private static final int[] NO_WHAT = {-1, Integer.MIN_VALUE, Integer.MAX_VALUE};

    public static void main(String[] args) {
        aboutBad();
        aboutTheLeast();
        aboutTheMost();
        aboutTogetherBeyondNinetyNine();
        aboutSownByNeed();
        aboutWouldBeSown();
        aboutCounts();
        fieldRefused();
        fieldOfLeastAndMost();
        fieldOwedByAll();
        eaterRefused();
        eaterOfLeastAndMost();
        eaterComes();
        eaterWithAWalkThatEnds();
        eaterAskedInAnyOrder();
        owesEachByItself();
        owesRefused();
        theFiveHundredAndTwelfthCall();
        CHECK.end();
    }

    // ---- promise 6

    private static void aboutBad() {
        CHECK.sentence("what = 0 .. 10. BAD.");
        for (OwedFurrows x : new OwedFurrows[] {new OwedFurrows(), Check.of("FG111E000")}) {
            for (int what : NO_WHAT) {
                CHECK.due("about(" + what + ")", x.about(what), BAD);
            }
            CHECK.due("about(11)", x.about(11), BAD);
            CHECK.due("about(10)", x.about(10) >= 0, true);
        }
    }

    private static void aboutTheLeast() {
        CHECK.sentence("A COUNTRY is a TEXT: F, then THINGS, none or more");
        OwedFurrows x = Check.of("F");
        for (int what = 0; what <= 9; what++) {
            CHECK.due("about(" + what + ")", x.about(what), 0);
        }
        CHECK.due("about(10)", x.about(10), 1);
    }

    /** All loaves of four fields are 99: each of twelve years brings eight more. */
    private static OwedFurrows fullBarns() {
        OwedFurrows x = Check.of("FG091G091G091G091E001E001E001E001E901");
        for (int year = 0; year < 12; year++) {
            x.cake(0, 0, 1);
            x.cake(0, 2, 3);
            x.march();
            x.harvest();
        }
        return x;
    }

    private static void aboutTheMost() {
        CHECK.sentence("FIELDS (4 at most), EATERS (5 at most), LOAVES of all (3)");
        OwedFurrows x = fullBarns();
        CHECK.due("about(0)", x.about(0), 4);
        CHECK.due("about(1)", x.about(1), 5);
        CHECK.due("about(2)", x.about(2), 12);
        CHECK.due("about(3)", x.about(3), 4 * 99);
        CHECK.sentence("FIELDS that would be, by a MARCH now (7: bits), that are SOWN (6: bits)");
        for (int eater = 0; eater < 5; eater++) {
            x.cake(eater, 0, 1);
            x.cake(eater, 2, 3);
        }
        CHECK.due("about(5)", x.about(5), 20);
        CHECK.due("about(6)", x.about(6), 0);
        CHECK.due("about(7)", x.about(7), 15);
        CHECK.due("march()", x.march(), 15);
        CHECK.due("about(4)", x.about(4), 20);
        CHECK.due("about(5)", x.about(5), 0);
        CHECK.due("about(6)", x.about(6), 15);
        CHECK.due("about(7)", x.about(7), 15);
    }

    private static void aboutTogetherBeyondNinetyNine() {
        CHECK.sentence("SEED of all (4), how much is OWED together (5)");
        OwedFurrows x = fullBarns();
        for (int owed = 2; owed <= 120; owed += 2) {
            CHECK.due("cake(4, 0, 1)", x.cake(4, 0, 1), owed);
        }
        CHECK.due("eater(4, 3)", x.eater(4, 3), 120);
        x.eat(0, 2);
        CHECK.due("about(5)", x.about(5), 121);
        x.march();
        CHECK.due("about(4)", x.about(4), 121);
    }

    private static void aboutSownByNeed() {
        CHECK.sentence("SOWN (has as much SEED as its NEED, or more)");
        OwedFurrows x = Check.of("FG099G092G091E001");
        for (int seed = 1; seed <= 9; seed++) {
            x.eat(0, 0);
            x.march();
            CHECK.due("about(6) with " + seed, x.about(6), seed < 9 ? 0 : 1);
        }
        CHECK.due("about(4)", x.about(4), 9);
        x.eat(0, 1);
        x.march();
        CHECK.due("one less than it needs", x.about(6), 1);
        x.eat(0, 1);
        x.march();
        CHECK.due("as much as it needs", x.about(6), 3);
        x.eat(0, 1);
        x.march();
        CHECK.due("more than it needs", x.about(6), 3);
    }

    private static void aboutWouldBeSown() {
        CHECK.sentence("FIELDS that would be, by a MARCH now (7: bits)");
        OwedFurrows x = Check.of("FG193E130E140E150G693E002");
        x.eat(0, 0);
        x.eat(1, 0);
        CHECK.due("one less than it needs", x.about(7), 0);
        x.eat(2, 0);
        CHECK.due("as much as it needs", x.about(7), 1);
        x.eat(3, 1);
        x.eat(0, 1);
        x.eat(1, 1);
        CHECK.due("too far for those who owe it", x.about(7), 1);
        x.eat(2, 1);
        CHECK.due("one reaches it, an army does not", x.about(7), 1);
        x.eat(2, 1);
        x.eat(2, 1);
        CHECK.due("one reaches it with enough", x.about(7), 3);
        CHECK.due("nothing is sown yet", x.about(6), 0);
        x.march();
        CHECK.due("what is sown already", x.about(7), 3);
        x.harvest();
        CHECK.due("no seed behind a harvest", x.about(7), 0);
    }

    private static void aboutCounts() {
        CHECK.sentence("ACTS (8), CAME (9), bytes of THE TEXT (10)");
        OwedFurrows x = Check.of("FG191E000");
        for (int many = 1; many <= 20; many++) {
            x.march();
            x.came(many % 10, 1);
            CHECK.due("about(8)", x.about(8), Math.min(14, many));
            CHECK.due("about(9)", x.about(9), Math.min(6, many));
        }
        for (int length = 10; length <= 50; length++) {
            x.write('F');
            CHECK.due("about(10)", x.about(10), Math.min(48, length));
        }
    }

    // ---- promise 7

    private static void fieldRefused() {
        CHECK.sentence("Of a FIELD .. UNKNOWN; BAD.");
        OwedFurrows four = Check.of("FG111G111G111G111");
        OwedFurrows one = Check.of("FG111E000E000E000E000E000");
        for (int what : NO_WHAT) {
            CHECK.due("field(0, " + what + ")", four.field(0, what), BAD);
            CHECK.due("field(3, " + what + ")", four.field(3, what), BAD);
            CHECK.due("field(4, " + what + ")", four.field(4, what), UNKNOWN);
            CHECK.due("field(" + what + ", 0)", four.field(what, 0), UNKNOWN);
            CHECK.due("field(" + what + ", 6)", four.field(what, 6), UNKNOWN);
        }
        CHECK.due("field(3, 5)", four.field(3, 5), 0);
        CHECK.due("field(3, 6)", four.field(3, 6), BAD);
        CHECK.due("field(4, 0)", four.field(4, 0), UNKNOWN);
        CHECK.due("field(0, 0)", one.field(0, 0), 1);
        CHECK.due("field(1, 0)", one.field(1, 0), UNKNOWN);
        CHECK.due("field(1, 6)", one.field(1, 6), UNKNOWN);
    }

    private static void fieldOfLeastAndMost() {
        CHECK.sentence("a FIELD at PLACE p, of YIELD y (1 .. 9), of NEED n (1 .. 9)");
        OwedFurrows x = Check.of("FG011G999");
        long[][] due = {{0, 1, 1, 1, 0, 0}, {9, 9, 9, 9, 0, 0}};
        for (int field = 0; field < 2; field++) {
            for (int what = 0; what <= 5; what++) {
                CHECK.due("field(" + field + ", " + what + ")", x.field(field, what),
                        due[field][what]);
            }
        }
    }

    private static void fieldOwedByAll() {
        CHECK.sentence("EATERS that OWE it anything (5: bits)");
        OwedFurrows x = Check.of("FG091G091G091G091E001E002E003E000E100");
        int bits = 0;
        for (int eater = 0; eater < 5; eater++) {
            CHECK.due("field(3, 5)", x.field(3, 5), bits);
            x.eat(eater, 3);
            bits |= 1 << eater;
        }
        CHECK.due("field(3, 5)", x.field(3, 5), 31);
        CHECK.due("field(0, 5)", x.field(0, 5), 0);
        x.march();
        CHECK.due("the last one can not come", x.field(3, 5), 16);
    }

    // ---- promise 8

    private static void eaterRefused() {
        CHECK.sentence("Of an EATER .. UNKNOWN; BAD.");
        OwedFurrows five = Check.of("FE000E000E000E000E000");
        OwedFurrows one = Check.of("FG111G111G111G111E000");
        for (int what : NO_WHAT) {
            CHECK.due("eater(0, " + what + ")", five.eater(0, what), BAD);
            CHECK.due("eater(4, " + what + ")", five.eater(4, what), BAD);
            CHECK.due("eater(5, " + what + ")", five.eater(5, what), UNKNOWN);
            CHECK.due("eater(" + what + ", 0)", five.eater(what, 0), UNKNOWN);
            CHECK.due("eater(" + what + ", 6)", five.eater(what, 6), UNKNOWN);
        }
        CHECK.due("eater(4, 5)", five.eater(4, 5), 0);
        CHECK.due("eater(4, 6)", five.eater(4, 6), BAD);
        CHECK.due("eater(5, 0)", five.eater(5, 0), UNKNOWN);
        CHECK.due("eater(0, 0)", one.eater(0, 0), 0);
        CHECK.due("eater(1, 0)", one.eater(1, 0), UNKNOWN);
        CHECK.due("eater(1, 6)", one.eater(1, 6), UNKNOWN);
    }

    private static void eaterOfLeastAndMost() {
        CHECK.sentence("HOME is PLACE h, of WALK w (0 .. 9), of KIND k (0 .. 3)");
        OwedFurrows x = Check.of("FE000E993");
        long[][] due = {{0, 0, 0, 0, 0, 0}, {9, 9, 3, 0, 0, 0}};
        for (int eater = 0; eater < 2; eater++) {
            for (int what = 0; what <= 5; what++) {
                CHECK.due("eater(" + eater + ", " + what + ")", x.eater(eater, what),
                        due[eater][what]);
            }
        }
    }

    private static void eaterComes() {
        CHECK.sentence("FIELDS that it would come to (4: bits), how far it would walk (5)");
        OwedFurrows x = Check.of("FG291G491G091G991E101E190E900E090");
        for (int eater = 0; eater < 4; eater++) {
            CHECK.due("owes nothing: eater(e, 4)", x.eater(eater, 4), 0);
            CHECK.due("owes nothing: eater(e, 5)", x.eater(eater, 5), 0);
            x.cake(eater, 0, 1);
            x.cake(eater, 2, 3);
        }
        CHECK.due("a tramp comes to all: eater(0, 4)", x.eater(0, 4), 15);
        CHECK.due("1 and 2 and 4 and 9: eater(0, 5)", x.eater(0, 5), 16);
        CHECK.due("9 is too far: eater(1, 4)", x.eater(1, 4), 7);
        CHECK.due("1 and 2 and 4: eater(1, 5)", x.eater(1, 5), 7);
        CHECK.due("at home without a walk: eater(2, 4)", x.eater(2, 4), 8);
        CHECK.due("at home without a walk: eater(2, 5)", x.eater(2, 5), 0);
        CHECK.due("9 in all: eater(3, 4)", x.eater(3, 4), 15);
        CHECK.due("9 in all: eater(3, 5)", x.eater(3, 5), 9);
        CHECK.sentence("In what follows nothing is changed.");
        CHECK.due("about(5)", x.about(5), 16);
        CHECK.due("about(4)", x.about(4), 0);
    }

    private static void eaterWithAWalkThatEnds() {
        CHECK.sentence("if that is no farther than its WALK that is left");
        OwedFurrows x = Check.of("FG391G691E030E050E060E020");
        int[] bits = {1, 1, 3, 0};
        int[] ways = {3, 3, 6, 0};
        for (int eater = 0; eater < 4; eater++) {
            x.cake(eater, 0, 1);
            CHECK.due("eater(" + eater + ", 4)", x.eater(eater, 4), bits[eater]);
            CHECK.due("eater(" + eater + ", 5)", x.eater(eater, 5), ways[eater]);
        }
    }

    private static void eaterAskedInAnyOrder() {
        CHECK.sentence("In a MARCH that was now: FIELDS that an EATER comes to; how far it walks");
        OwedFurrows x = Check.of("FG391G691E060");
        x.cake(0, 0, 1);
        CHECK.due("the first question: eater(0, 5)", x.eater(0, 5), 6);
        CHECK.due("eater(0, 4)", x.eater(0, 4), 3);
        x.undo();
        CHECK.due("undone: eater(0, 4)", x.eater(0, 4), 0);
        CHECK.due("undone: eater(0, 5)", x.eater(0, 5), 0);
        x.eat(0, 0);
        x.rid(0);
        x.ahead(0, 9);
        CHECK.due("behind other questions: eater(0, 5)", x.eater(0, 5), 3);
        x.judge(2, 201000);
        CHECK.due("behind other questions: eater(0, 4)", x.eater(0, 4), 1);
    }

    // ---- promise 9

    private static void owesEachByItself() {
        CHECK.sentence("How much an EATER OWES a FIELD.");
        OwedFurrows x = Check.of("FG991G991G991G991E000E002E000E000E000");
        x.eat(4, 3);
        x.eat(1, 0);
        x.eat(0, 3);
        x.eat(0, 3);
        for (int eater = 0; eater < 5; eater++) {
            for (int field = 0; field < 4; field++) {
                int due = eater == 4 && field == 3 ? 1
                        : eater == 1 && field == 0 || eater == 0 && field == 3 ? 2 : 0;
                CHECK.due("owes(" + eater + ", " + field + ")", x.owes(eater, field), due);
            }
        }
    }

    private static void owesRefused() {
        CHECK.sentence("UNKNOWN: eater, field.");
        OwedFurrows x = Check.of("FG991G991G991G991E000E002E000E000E000");
        for (int wrong : new int[] {-1, 5, Integer.MIN_VALUE, Integer.MAX_VALUE}) {
            CHECK.due("owes(" + wrong + ", 0)", x.owes(wrong, 0), UNKNOWN);
            CHECK.due("owes(0, " + wrong + ")", x.owes(0, wrong), UNKNOWN);
            CHECK.due("owes(" + wrong + ", " + wrong + ")", x.owes(wrong, wrong), UNKNOWN);
        }
        CHECK.due("owes(4, 4)", x.owes(4, 4), UNKNOWN);
        CHECK.due("owes(4, 3)", x.owes(4, 3), 0);
        OwedFurrows one = Check.of("FG991E000");
        CHECK.due("owes(1, 0)", one.owes(1, 0), UNKNOWN);
        CHECK.due("owes(0, 1)", one.owes(0, 1), UNKNOWN);
    }

    private static void theFiveHundredAndTwelfthCall() {
        CHECK.sentence("An object is used for at most 512 calls / THE YEAR is one more");
        OwedFurrows x = new OwedFurrows();
        for (int call = 1; call <= 511; call++) {
            x.harvest();
        }
        CHECK.due("about(2) as call 512", x.about(2), 511);
    }
}
