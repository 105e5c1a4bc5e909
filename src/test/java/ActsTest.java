import java.util.List;
import java.util.function.Consumer;

/** Promises 10 to 14: bread eaten, cakes, Marches, harvests, and all of it undone. */
public final class ActsTest {
    private static final Check CHECK = new Check();

    public static void main(String[] args) {
        eat();
        cake();
        marchByTheNearest();
        marchByTheWalk();
        marchOfTramps();
        harvest();
        ninetyNine();
        ninetyNineOwed();
        undo();
        undoOfEachAct();
        whatIsNoAct();
        CHECK.end();
    }

    private static void eat() {
        OwedFurrows x = Check.of("FG132E000E002E003E001");
        CHECK.due("an army eats two", x.eat(1, 0), 2);
        CHECK.due("one loaf is left", x.field(0, 3), 1);
        CHECK.due("an army has no half", x.eat(1, 0), OwedFurrows.LATE);
        CHECK.due("a choosy one eats", x.eat(2, 0), 1);
        CHECK.due("none is left", x.eat(0, 0), OwedFurrows.LATE);
        CHECK.due("acts", x.about(8), 2);
        CHECK.due("eat(4, 0)", x.eat(4, 0), OwedFurrows.UNKNOWN);
        CHECK.due("eat(0, 1)", x.eat(0, 1), OwedFurrows.UNKNOWN);
        CHECK.due("eat(-1, 0)", x.eat(-1, 0), OwedFurrows.UNKNOWN);
        CHECK.due("eat(0, -1)", x.eat(0, -1), OwedFurrows.UNKNOWN);
        OwedFurrows y = Check.of("FG199G299E103");
        CHECK.due("a choosy one eats at first", y.eat(0, 0), 1);
        CHECK.due("and not where it owes", y.eat(0, 0), OwedFurrows.LATE);
        CHECK.due("and not elsewhere", y.eat(0, 1), OwedFurrows.LATE);
        y.march();
        CHECK.due("but when it owes no more", y.eat(0, 1), 1);
        OwedFurrows z = Check.of("FG199E100");
        for (int owed = 1; owed <= 9; owed++) {
            CHECK.due("a plain one eats again", z.eat(0, 0), owed);
        }
    }

    private static void cake() {
        OwedFurrows x = Check.of("FG132G242G313E000E002E003");
        CHECK.due("cake of an army", x.cake(1, 0, 1), 4);
        CHECK.due("two of the one", x.field(0, 3), 1);
        CHECK.due("two of the other", x.field(1, 3), 2);
        CHECK.due("owed to the other", x.owes(1, 1), 2);
        CHECK.due("the one has one alone", x.cake(1, 0, 1), OwedFurrows.LATE);
        CHECK.due("the other has one alone", x.cake(1, 1, 0), OwedFurrows.LATE);
        CHECK.due("refused: nothing is taken", x.about(3), 4);
        CHECK.due("cake of a choosy one", x.cake(2, 1, 2), 2);
        CHECK.due("that owes now", x.cake(2, 0, 1), OwedFurrows.LATE);
        CHECK.due("cake of a plain one", x.cake(0, 0, 1), 2);
        CHECK.due("acts", x.about(8), 3);
        CHECK.due("cake(3, 0, 1)", x.cake(3, 0, 1), OwedFurrows.UNKNOWN);
        CHECK.due("cake(-1, 0, 1)", x.cake(-1, 0, 1), OwedFurrows.UNKNOWN);
        CHECK.due("cake(0, 3, 1)", x.cake(0, 3, 1), OwedFurrows.UNKNOWN);
        CHECK.due("cake(0, 1, 3)", x.cake(0, 1, 3), OwedFurrows.UNKNOWN);
        CHECK.due("cake(0, -1, 1)", x.cake(0, -1, 1), OwedFurrows.UNKNOWN);
        CHECK.due("cake(0, 1, -1)", x.cake(0, 1, -1), OwedFurrows.UNKNOWN);
        CHECK.due("cake(0, 7, 7): UNKNOWN is told first", x.cake(0, 7, 7), OwedFurrows.UNKNOWN);
        CHECK.due("cake(0, 0, 0): BAD is told first", x.cake(0, 0, 0), OwedFurrows.BAD);
        OwedFurrows y = Check.of("FG199G299G399E100");
        y.eat(0, 2);
        CHECK.due("together with what it owed", y.cake(0, 1, 0), 3);
    }

    private static void marchByTheNearest() {
        OwedFurrows x = Check.of("FG791G391E520");
        x.cake(0, 0, 1);
        CHECK.due("of like ones the least", x.march(), 1);
        CHECK.due("the other is too far then", x.owes(0, 1), 1);
        CHECK.due("a new march begins at home", x.march(), 3);
        CHECK.due("nobody owes", x.about(5), 0);
        OwedFurrows y = Check.of("FG091G391E290");
        y.cake(0, 0, 1);
        CHECK.due("the nearest first: way", y.eater(0, 5), 4);
    }

    private static void marchByTheWalk() {
        OwedFurrows x = Check.of("FG491G691E240E230E210E200G291");
        for (int eater = 0; eater < 4; eater++) {
            x.cake(eater, 0, 1);
        }
        x.eat(3, 2);
        CHECK.due("fields sown", x.march(), 7);
        CHECK.due("as far as its walk", x.owes(0, 1), 0);
        CHECK.due("one farther than its walk", x.owes(1, 1), 1);
        CHECK.due("but the first it came to", x.owes(1, 0), 0);
        CHECK.due("too far at once", x.owes(2, 0), 1);
        CHECK.due("no way at all", x.owes(3, 2), 0);
        CHECK.due("seed at the first", x.field(0, 4), 2);
        CHECK.due("seed at the second", x.field(1, 4), 1);
        CHECK.due("acts", x.about(8), 6);
    }

    private static void marchOfTramps() {
        OwedFurrows x = Check.of("FG092G992E001");
        x.eat(0, 1);
        x.cake(0, 0, 1);
        CHECK.due("a tramp without a walk", x.march(), 2);
        CHECK.due("it owes nothing", x.about(5), 0);
        CHECK.due("as much seed as it owed", x.field(1, 4), 2);
        CHECK.due("a march of nobody leaves the seed", x.march(), 2);
        OwedFurrows y = Check.of("FG091G991G191G891E001");
        y.cake(0, 0, 1);
        y.cake(0, 2, 3);
        CHECK.due("all four fields: way", y.eater(0, 5), 9);
        CHECK.due("all four fields", y.march(), 15);
    }

    private static void harvest() {
        OwedFurrows x = Check.of("FG132G242G353E190E290E390");
        x.eat(0, 0);
        x.eat(0, 0);
        x.eat(1, 1);
        for (int i = 0; i < 4; i++) {
            x.eat(2, 2);
        }
        CHECK.due("sown", x.march(), 5);
        CHECK.due("harvest()", x.harvest(), 1 + 3 + 3 + 1 + 5);
        CHECK.due("as much as it needs", x.field(0, 3), 4);
        CHECK.due("less than it needs", x.field(1, 3), 3);
        CHECK.due("more than it needs", x.field(2, 3), 6);
        CHECK.due("no seed anywhere", x.about(4), 0);
        CHECK.due("the year", x.about(2), 1);
        CHECK.due("a harvest of nothing", x.harvest(), 13);
        CHECK.due("the next year", x.about(2), 2);
    }

    private static void ninetyNine() {
        OwedFurrows x = Check.of("FG091E001E901");
        for (int i = 0; i < 11; i++) {
            x.eat(0, 0);
            x.march();
            x.harvest();
        }
        CHECK.due("loaves far up", x.field(0, 3), 97);
        x.eat(0, 0);
        x.march();
        CHECK.due("ahead(0, 1) is 99 at most", x.ahead(0, 1), 99);
        CHECK.due("loaves are 99 at most", x.harvest(), 99);
    }

    /** Eater 0 owes the near field each March, so that its walk ends ahead of the far one. */
    private static void ninetyNineOwed() {
        OwedFurrows x = Check.of("FG391G691E520E001");
        int owed = 0;
        for (int round = 0; round < 13; round++) {
            x.eat(0, 1);
            x.eat(1, 0);
            x.march();
            x.harvest();
            for (int i = 0; i < 8; i++) {
                owed = Math.min(99, owed + 1);
                CHECK.due("owed is 99 at most", x.eat(0, 0), owed);
            }
        }
        CHECK.due("loaves are eaten beyond 99 too", x.field(0, 3), 9);
        x.eat(1, 0);
        CHECK.due("seed is 99 at most", x.march(), 1);
        CHECK.due("seed is 99 at most", x.field(0, 4), 99);
        CHECK.due("it is rid of all", x.about(5), 0);
    }

    private static void undo() {
        OwedFurrows x = Check.of("FG199E900");
        CHECK.due("undo() of nothing", x.undo(), OwedFurrows.LATE);
        for (int year = 1; year <= 16; year++) {
            x.harvest();
            CHECK.due("acts", x.about(8), Math.min(14, year));
        }
        for (int left = 13; left >= 0; left--) {
            CHECK.due("undo()", x.undo(), left);
            CHECK.due("the year behind undo()", x.about(2), left + 2);
        }
        CHECK.due("what was forgotten stays", x.undo(), OwedFurrows.LATE);
        CHECK.due("the year of what was forgotten", x.about(2), 2);
        x.eat(0, 0);
        CHECK.due("acts go on", x.about(8), 1);
        CHECK.due("undo() again", x.undo(), 0);
        CHECK.due("the loaf is back", x.field(0, 3), 9);
    }

    private static void undoOfEachAct() {
        List<Consumer<OwedFurrows>> acts = List.of(x -> x.eat(0, 0), x -> x.cake(1, 0, 1),
                x -> x.eat(2, 1), x -> x.march(), x -> x.harvest(), x -> x.cake(2, 1, 0));
        for (int last = 0; last < acts.size(); last++) {
            OwedFurrows x = Check.of("FG192G292E090E002E203");
            for (int act = 0; act < last; act++) {
                acts.get(act).accept(x);
            }
            Object before = Check.allOf(x);
            acts.get(last).accept(x);
            CHECK.due("acts", x.about(8), last + 1);
            CHECK.due("undo()", x.undo(), last);
            CHECK.due("all is as it was", Check.allOf(x), before);
        }
    }

    private static void whatIsNoAct() {
        OwedFurrows x = Check.of("FG192G292E090E002E203");
        x.eat(2, 0);
        x.eat(2, 0);
        x.cake(0, 0, 0);
        x.eat(0, 7);
        CHECK.due("refused acts are none", x.about(8), 1);
        x.came(1, 1);
        x.seed(4);
        x.write('Z');
        CHECK.due("other calls are none", x.about(8), 1);
        x.undo();
        CHECK.due("came stays", x.about(9), 1);
        CHECK.due("the seed stays", x.seed(0), 4);
        CHECK.due("the text stays", x.about(10), 22);
    }
}
