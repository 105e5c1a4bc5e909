/** Promises 27 and 28: keep, again. */
public final class SlotsTest {
    private static final Check CHECK = new Check();

    public static void main(String[] args) {
        refused();
        keptAndGoneOnFrom();
        twoSlots();
        CHECK.end();
    }

    private static void refused() {
        OwedFurrows x = Check.of("FG191E100");
        x.eat(0, 0);
        CHECK.due("keep(-1)", x.keep(-1), OwedFurrows.UNKNOWN);
        CHECK.due("keep(2)", x.keep(2), OwedFurrows.UNKNOWN);
        CHECK.due("again(-1)", x.again(-1), OwedFurrows.UNKNOWN);
        CHECK.due("again(2)", x.again(2), OwedFurrows.UNKNOWN);
        CHECK.due("again(0)", x.again(0), OwedFurrows.LATE);
        CHECK.due("again(1)", x.again(1), OwedFurrows.LATE);
        CHECK.due("refused: acts stay", x.about(8), 1);
        x.keep(1);
        CHECK.due("again(0), kept in 1", x.again(0), OwedFurrows.LATE);
        CHECK.due("keep of an empty country", new OwedFurrows().keep(0), 0);
    }

    private static void keptAndGoneOnFrom() {
        OwedFurrows x = Check.of("FG191G291E100E290");
        x.eat(0, 0);
        x.march();
        x.harvest();
        x.eat(0, 0);
        x.eat(1, 1);
        x.march();
        x.cake(1, 0, 1);
        CHECK.due("keep(0)", x.keep(0), 1);
        CHECK.due("acts stay when it is kept", x.about(8), 7);
        Object before = Check.allOf(x);
        x.harvest();
        x.eat(0, 0);
        x.march();
        x.harvest();
        x.came(3, 1);
        x.seed(5);
        x.write('x');
        CHECK.due("again(0)", x.again(0), 1);
        CHECK.due("no acts when it goes on", x.about(8), 0);
        CHECK.due("undo()", x.undo(), OwedFurrows.LATE);
        CHECK.due("came stays", x.forget(), 1);
        CHECK.due("the seed stays", x.seed(0), 5);
        CHECK.due("the text stays", x.about(10), 18);
        x.wipe();
        Check.writeAll(x, "FG191G291E100E290");
        for (int i = 0; i < 7; i++) {
            x.march();
        }
        CHECK.due("again(0) once more", x.again(0), 1);
        for (int i = 0; i < 7; i++) {
            x.harvest();
        }
        CHECK.due("acts", x.about(8), 7);
        x.again(0);
        x.harvest();
        CHECK.due("undo() goes no farther back", x.undo(), 0);
        CHECK.due("all but the acts", withSevenActs(Check.allOf(x)), before);
    }

    private static Object withSevenActs(java.util.List<Long> all) {
        all.set(8, 7L);
        return all;
    }

    private static void twoSlots() {
        OwedFurrows x = Check.of("FG191E100");
        x.keep(0);
        x.eat(0, 0);
        x.harvest();
        CHECK.due("keep(1)", x.keep(1), 1);
        CHECK.due("again(0)", x.again(0), 0);
        CHECK.due("loaves of slot 0", x.about(3), 9);
        CHECK.due("owed in slot 0", x.about(5), 0);
        CHECK.due("again(1)", x.again(1), 1);
        CHECK.due("loaves of slot 1", x.about(3), 8);
        CHECK.due("owed in slot 1", x.about(5), 1);
        x.harvest();
        CHECK.due("keep(0) over what was kept", x.keep(0), 2);
        x.again(1);
        CHECK.due("again(0)", x.again(0), 2);
    }
}
