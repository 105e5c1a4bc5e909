import java.util.List;

/** Boundary cases of promises 27 and 28, each under the words of the document that name it. */
public final class SlotsBoundariesTest {
    private static final Check CHECK = new Check();
    private static final int LATE = OwedFurrows.LATE;
    private static final int UNKNOWN = OwedFurrows.UNKNOWN;
    private static final int[] NO_SLOT = {-1, 2, 3, Integer.MIN_VALUE, Integer.MAX_VALUE};

    public static void main(String[] args) {
        noSuchSlot();
        noneWereKept();
        keptInAnEmptyCountry();
        allThatIsKept();
        whatIsNotKept();
        noActsWhenOneGoesOn();
        keptOverAgain();
        eachSlotByItself();
        goneOnFromTwice();
        goneByACountry();
        keptAtTheMost();
        CHECK.end();
    }

    private static void noSuchSlot() {
        CHECK.sentence("SLOTS 0 .. 1 / UNKNOWN");
        OwedFurrows x = Check.of("FG191E100");
        for (int slot : NO_SLOT) {
            CHECK.due("keep(" + slot + ")", x.keep(slot), UNKNOWN);
            CHECK.due("again(" + slot + "), none kept", x.again(slot), UNKNOWN);
        }
        CHECK.due("again(0): nothing was kept by them", x.again(0), LATE);
        CHECK.due("again(1): nothing was kept by them", x.again(1), LATE);
        CHECK.due("keep(0)", x.keep(0), 0);
        CHECK.due("keep(1)", x.keep(1), 0);
        for (int slot : NO_SLOT) {
            CHECK.due("again(" + slot + "), both kept", x.again(slot), UNKNOWN);
        }
    }

    private static void noneWereKept() {
        CHECK.sentence("LATE: none were kept.");
        OwedFurrows x = Check.of("FG191E100");
        x.eat(0, 0);
        for (int slot = 0; slot < 2; slot++) {
            CHECK.due("again(" + slot + ")", x.again(slot), LATE);
        }
        CHECK.due("nothing is changed: about(8)", x.about(8), 1);
        CHECK.due("nothing is changed: about(5)", x.about(5), 1);
        x.keep(0);
        CHECK.due("again(1), kept in 0", x.again(1), LATE);
        CHECK.due("again(0)", x.again(0), 0);
        OwedFurrows y = Check.of("FG191E100");
        y.keep(1);
        CHECK.due("again(0), kept in 1", y.again(0), LATE);
        CHECK.due("again(1)", y.again(1), 0);
    }

    private static void keptInAnEmptyCountry() {
        CHECK.sentence("They are kept: THE YEAR.");
        OwedFurrows x = new OwedFurrows();
        CHECK.due("keep(1)", x.keep(1), 0);
        x.harvest();
        x.harvest();
        CHECK.due("keep(0)", x.keep(0), 2);
        CHECK.due("again(1)", x.again(1), 0);
        CHECK.due("about(2)", x.about(2), 0);
        CHECK.due("again(0)", x.again(0), 2);
        CHECK.due("about(2)", x.about(2), 2);
    }

    /** With seed, debts and a year behind it, in four fields and with five eaters. */
    private static OwedFurrows lived() {
        OwedFurrows x = Check.of("FG191G292G393G494E090E202E103E001E990");
        x.cake(3, 0, 1);
        x.eat(0, 0);
        x.march();
        x.harvest();
        x.cake(3, 2, 3);
        x.eat(1, 1);
        x.march();
        x.cake(4, 3, 0);
        x.eat(2, 2);
        return x;
    }

    private static List<Long> withoutActs(OwedFurrows x) {
        List<Long> stand = Check.standOf(x);
        stand.remove(8);
        return stand;
    }

    private static void allThatIsKept() {
        CHECK.sentence("SLOTS keep LOAVES, SEED, what is OWED, THE YEAR / They are as they were kept");
        for (int slot = 0; slot < 2; slot++) {
            OwedFurrows x = lived();
            Object before = withoutActs(x);
            CHECK.due("keep(" + slot + ")", x.keep(slot), 1);
            CHECK.due("nothing is changed by it", withoutActs(x), before);
            CHECK.due("acts stay when it is kept", x.about(8), 9);
            x.harvest();
            x.cake(0, 2, 3);
            x.march();
            x.harvest();
            x.eat(1, 0);
            CHECK.due("again(" + slot + ")", x.again(slot), 1);
            CHECK.due("all is as it was", withoutActs(x), before);
        }
    }

    private static void whatIsNotKept() {
        CHECK.sentence("SLOTS 0 .. 1 keep LOAVES, SEED, what is OWED, THE YEAR");
        OwedFurrows x = lived();
        x.came(1, 1);
        x.seed(9);
        x.keep(0);
        x.came(2, 0);
        x.seed(10);
        x.write('X');
        x.again(0);
        CHECK.due("about(9)", x.about(9), 2);
        CHECK.due("seed(0)", x.seed(0), 10);
        CHECK.due("about(10)", x.about(10), 38);
        CHECK.due("fault()", x.fault(), 37);
    }

    private static void noActsWhenOneGoesOn() {
        CHECK.sentence("(no ACTS when one goes on)");
        for (int acts : new int[] {0, 1, 13, 14, 15, 20}) {
            OwedFurrows x = Check.of("FG191E100");
            for (int act = 0; act < acts; act++) {
                x.harvest();
            }
            x.keep(0);
            CHECK.due("about(8) behind keep(0)", x.about(8), Math.min(14, acts));
            CHECK.due("again(0)", x.again(0), acts);
            CHECK.due("about(8) behind again(0)", x.about(8), 0);
            CHECK.due("undo()", x.undo(), LATE);
            CHECK.due("about(2)", x.about(2), acts);
            for (int act = 1; act <= 16; act++) {
                x.harvest();
                CHECK.due("acts from there", x.about(8), Math.min(14, act));
            }
            for (int left = 13; left >= 0; left--) {
                CHECK.due("undo()", x.undo(), left);
            }
            CHECK.due("about(2)", x.about(2), acts + 2);
        }
    }

    private static void keptOverAgain() {
        CHECK.sentence("They are kept");
        OwedFurrows x = Check.of("FG191E100");
        x.keep(0);
        x.harvest();
        CHECK.due("keep(0) over what was kept", x.keep(0), 1);
        x.harvest();
        CHECK.due("again(0)", x.again(0), 1);
        CHECK.due("keep(1)", x.keep(1), 1);
        x.eat(0, 0);
        CHECK.due("an undo does not undo what is kept", x.undo(), 0);
        CHECK.due("again(1)", x.again(1), 1);
    }

    private static void eachSlotByItself() {
        CHECK.sentence("SLOTS 0 .. 1");
        OwedFurrows x = Check.of("FG191E100");
        x.keep(0);
        x.eat(0, 0);
        x.harvest();
        x.keep(1);
        x.march();
        x.harvest();
        CHECK.due("again(0)", x.again(0), 0);
        CHECK.due("loaves of slot 0", x.about(3), 9);
        CHECK.due("owed in slot 0", x.about(5), 0);
        CHECK.due("again(1)", x.again(1), 1);
        CHECK.due("loaves of slot 1", x.about(3), 8);
        CHECK.due("owed in slot 1", x.about(5), 1);
        CHECK.due("again(0) once more", x.again(0), 0);
    }

    private static void goneOnFromTwice() {
        CHECK.sentence("They are as they were kept");
        OwedFurrows x = Check.of("FG191E100");
        x.eat(0, 0);
        x.keep(0);
        for (int time = 0; time < 3; time++) {
            CHECK.due("again(0)", x.again(0), 0);
            CHECK.due("about(5)", x.about(5), 1);
            CHECK.due("march()", x.march(), 1);
            CHECK.due("harvest()", x.harvest(), 17);
            CHECK.due("eat(0, 0)", x.eat(0, 0), 1);
        }
        OwedFurrows questions = Check.of("FG191E100");
        questions.eat(0, 0);
        questions.keep(0);
        questions.ahead(0, 9);
        questions.years(30);
        questions.wants(0);
        CHECK.due("again(0) behind questions", questions.again(0), 0);
        CHECK.due("about(3)", questions.about(3), 8);
    }

    private static void goneByACountry() {
        CHECK.sentence("what was kept is gone");
        OwedFurrows x = Check.of("FG191E100");
        x.keep(0);
        x.keep(1);
        x.write('X');
        CHECK.due("country() with a fault", x.country(), LATE);
        CHECK.due("again(0)", x.again(0), 0);
        CHECK.due("again(1)", x.again(1), 0);
        x.wipe();
        x.write('F');
        CHECK.due("still there behind wipe()", x.again(0), 0);
        CHECK.due("country()", x.country(), 0);
        CHECK.due("again(0)", x.again(0), LATE);
        CHECK.due("again(1)", x.again(1), LATE);
        CHECK.due("keep(1)", x.keep(1), 0);
        CHECK.due("again(1)", x.again(1), 0);
        CHECK.due("again(0)", x.again(0), LATE);
    }

    private static void keptAtTheMost() {
        CHECK.sentence("They are as they were kept: THE YEAR.");
        OwedFurrows x = Check.of("FG091E001");
        for (int year = 0; year < 12; year++) {
            x.eat(0, 0);
            x.march();
            x.harvest();
        }
        CHECK.due("keep(0)", x.keep(0), 12);
        for (int loaf = 0; loaf < 99; loaf++) {
            x.eat(0, 0);
        }
        CHECK.due("keep(1)", x.keep(1), 12);
        x.march();
        CHECK.due("about(4)", x.about(4), 99);
        CHECK.due("again(0)", x.again(0), 12);
        CHECK.due("about(3)", x.about(3), 99);
        CHECK.due("again(1)", x.again(1), 12);
        CHECK.due("about(3)", x.about(3), 0);
        CHECK.due("about(5)", x.about(5), 99);
    }
}
