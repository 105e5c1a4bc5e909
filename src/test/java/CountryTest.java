/** Promises 1 to 9: the text, its fault, the country and what is told of it. */
public final class CountryTest {
    private static final Check CHECK = new Check();

    public static void main(String[] args) {
        aNewObject();
        write();
        wipe();
        fault();
        country();
        countryMadeAnew();
        about();
        field();
        eater();
        owes();
        CHECK.end();
    }

    private static void aNewObject() {
        OwedFurrows x = new OwedFurrows();
        for (int what = 0; what <= 10; what++) {
            CHECK.due("new: about(" + what + ")", x.about(what), 0);
        }
        CHECK.due("new: field(0, 0)", x.field(0, 0), OwedFurrows.UNKNOWN);
        CHECK.due("new: eater(0, 0)", x.eater(0, 0), OwedFurrows.UNKNOWN);
        CHECK.due("new: fault()", x.fault(), 0);
        CHECK.due("new: strangers(0)", x.strangers(0), 100);
        CHECK.due("new: strangers(1)", x.strangers(1), 0);
        CHECK.due("new: again(0)", x.again(0), OwedFurrows.LATE);
        CHECK.due("new: again(1)", x.again(1), OwedFurrows.LATE);
        CHECK.due("new: undo()", x.undo(), OwedFurrows.LATE);
        CHECK.due("new: seed(3)", x.seed(3), 0);
    }

    private static void write() {
        OwedFurrows x = new OwedFurrows();
        CHECK.due("write(-1)", x.write(-1), OwedFurrows.BAD);
        CHECK.due("write(256)", x.write(256), OwedFurrows.BAD);
        CHECK.due("write(326), F but for 256", x.write('F' + 256), OwedFurrows.BAD);
        CHECK.due("write(0)", x.write(0), 1);
        CHECK.due("write(255)", x.write(255), 2);
        for (int length = 3; length <= 48; length++) {
            CHECK.due("write(70) as number " + length, x.write(70), length);
        }
        CHECK.due("write(70) behind 48", x.write(70), OwedFurrows.FULL);
        CHECK.due("write(256) behind 48: BAD is told first", x.write(256), OwedFurrows.BAD);
        CHECK.due("about(10) behind refusals", x.about(10), 48);
    }

    private static void wipe() {
        OwedFurrows x = Check.of("FG111E000");
        x.eat(0, 0);
        CHECK.due("wipe()", x.wipe(), 9);
        CHECK.due("wipe() of nothing", x.wipe(), 0);
        CHECK.due("about(10) of nothing", x.about(10), 0);
        CHECK.due("fault() of nothing", x.fault(), 0);
        CHECK.due("the country stays behind wipe()", x.owes(0, 0), 1);
        Check.writeAll(x, "F");
        CHECK.due("fault() of a text written anew", x.fault(), OwedFurrows.NONE);
        x.write('G');
        CHECK.due("fault() knows nothing of wiped bytes", x.fault(), 2);
    }

    private static void fault() {
        String[] countries = {"F", "FG011", "FG999", "FE000", "FE993", "FE001E002G199E003",
            "FG111G111G111G111E000E000E000E000E000", "FE000E000E000E000E000G111G111G111G111"};
        for (String text : countries) {
            CHECK.due("fault of " + text, Check.faultOf(text), OwedFurrows.NONE);
            for (int length = 0; length < text.length(); length++) {
                int due = length % 4 == 1 ? OwedFurrows.NONE : length;
                CHECK.due("fault of " + text.substring(0, length),
                        Check.faultOf(text.substring(0, length)), due);
            }
        }
        CHECK.due("fault of G", Check.faultOf("G"), 0);
        CHECK.due("fault of f", Check.faultOf("f"), 0);
        CHECK.due("fault of FF", Check.faultOf("FF"), 1);
        CHECK.due("fault of Fg", Check.faultOf("Fg111"), 1);
        CHECK.due("fault of FG/", Check.faultOf("FG/11"), 2);
        CHECK.due("fault of FG:", Check.faultOf("FG:11"), 2);
        CHECK.due("fault of FG00", Check.faultOf("FG001"), 3);
        CHECK.due("fault of FG0:", Check.faultOf("FG0:1"), 3);
        CHECK.due("fault of FG010", Check.faultOf("FG010"), 4);
        CHECK.due("fault of FG01:", Check.faultOf("FG01:"), 4);
        CHECK.due("fault of FE/", Check.faultOf("FE/00"), 2);
        CHECK.due("fault of FE:", Check.faultOf("FE:00"), 2);
        CHECK.due("fault of FE0/", Check.faultOf("FE0/0"), 3);
        CHECK.due("fault of FE0:", Check.faultOf("FE0:0"), 3);
        CHECK.due("fault of FE00/", Check.faultOf("FE00/"), 4);
        CHECK.due("fault of FE004", Check.faultOf("FE004"), 4);
        CHECK.due("fault of five fields", Check.faultOf("FG111G111G111G111G111"), 17);
        CHECK.due("fault of six eaters", Check.faultOf("FE000E000E000E000E000E000"), 21);
        CHECK.due("fault of a byte too many",
                Check.faultOf("FG111G111G111G111E000E000E000E000E000G"), 37);
        CHECK.due("the first of two faults", Check.faultOf("FG001X"), 3);
    }

    private static void country() {
        OwedFurrows x = new OwedFurrows();
        CHECK.due("country() of nothing", x.country(), OwedFurrows.LATE);
        x.write('F');
        CHECK.due("country() of F", x.country(), 0);
        Check.writeAll(x, "G12");
        CHECK.due("country() in a thing", x.country(), OwedFurrows.LATE);
        x.write('3');
        CHECK.due("country() of one field", x.country(), 10);
        CHECK.due("the text stays", x.about(10), 5);
        Check.writeAll(x, "E012E013G987");
        CHECK.due("what is written alone is no country", x.about(1), 0);
        CHECK.due("country() of 2 and 2", x.country(), 22);
        CHECK.due("field(1, 0)", x.field(1, 0), 9);
        CHECK.due("eater(1, 2)", x.eater(1, 2), 3);
        OwedFurrows full = Check.of("FG111G111G111G111E000E000E000E000E000");
        CHECK.due("country() of all", full.country(), 45);
    }

    private static void countryMadeAnew() {
        OwedFurrows x = Check.of("FG111G222E090E191");
        x.eat(0, 0);
        x.march();
        x.harvest();
        x.eat(1, 1);
        x.keep(0);
        x.keep(1);
        x.came(4, 1);
        x.seed(77);
        x.wipe();
        Check.writeAll(x, "FG");
        CHECK.due("country() with a fault", x.country(), OwedFurrows.LATE);
        CHECK.due("refused: the year stays", x.about(2), 1);
        CHECK.due("refused: acts stay", x.about(8), 4);
        CHECK.due("refused: what was kept stays", x.again(0), 1);
        Check.writeAll(x, "354E990");
        CHECK.due("country() anew", x.country(), 11);
        CHECK.due("anew: year", x.about(2), 0);
        CHECK.due("anew: loaves", x.about(3), 5);
        CHECK.due("anew: seed", x.about(4), 0);
        CHECK.due("anew: owed", x.about(5), 0);
        CHECK.due("anew: acts", x.about(8), 0);
        CHECK.due("anew: came stays", x.about(9), 1);
        CHECK.due("anew: again(0)", x.again(0), OwedFurrows.LATE);
        CHECK.due("anew: again(1)", x.again(1), OwedFurrows.LATE);
        CHECK.due("anew: undo()", x.undo(), OwedFurrows.LATE);
        CHECK.due("anew: the seed stays", x.seed(0), 77);
        CHECK.due("anew: field 1 is gone", x.field(1, 0), OwedFurrows.UNKNOWN);
        x.eat(0, 0);
        x.harvest();
        x.country();
        CHECK.due("the same anew: owed", x.owes(0, 0), 0);
        CHECK.due("the same anew: loaves", x.field(0, 3), 5);
        CHECK.due("the same anew: year", x.about(2), 0);
    }

    private static void about() {
        OwedFurrows x = Check.of("FG253G561E290E552E030");
        long[] first = {2, 3, 0, 11, 0, 0, 0, 0, 0, 0, 21};
        for (int what = 0; what <= 10; what++) {
            CHECK.due("about(" + what + ") at first", x.about(what), first[what]);
        }
        x.eat(0, 0);
        x.eat(1, 1);
        x.eat(2, 1);
        x.came(1, 1);
        long[] eaten = {2, 3, 0, 7, 0, 4, 0, 2, 3, 1, 21};
        for (int what = 0; what <= 10; what++) {
            CHECK.due("about(" + what + ") eaten", x.about(what), eaten[what]);
        }
        x.march();
        x.eat(0, 0);
        x.eat(0, 0);
        long[] marched = {2, 3, 0, 5, 3, 3, 2, 3, 6, 1, 21};
        for (int what = 0; what <= 10; what++) {
            CHECK.due("about(" + what + ") marched", x.about(what), marched[what]);
        }
        x.harvest();
        CHECK.due("about(2) behind a harvest", x.about(2), 1);
        CHECK.due("about(3) behind a harvest", x.about(3), 11);
        CHECK.due("about(4) behind a harvest", x.about(4), 0);
        CHECK.due("about(-1)", x.about(-1), OwedFurrows.BAD);
        CHECK.due("about(11)", x.about(11), OwedFurrows.BAD);
    }

    private static void field() {
        OwedFurrows x = Check.of("FG278G561E290E552E030");
        x.eat(0, 0);
        x.eat(2, 0);
        x.eat(1, 1);
        long[] due = {2, 7, 8, 5, 0, 5};
        for (int what = 0; what <= 5; what++) {
            CHECK.due("field(0, " + what + ")", x.field(0, what), due[what]);
        }
        CHECK.due("field(1, 5)", x.field(1, 5), 2);
        x.march();
        CHECK.due("field(0, 4) marched", x.field(0, 4), 2);
        CHECK.due("field(1, 4) marched", x.field(1, 4), 2);
        CHECK.due("field(0, 5) marched", x.field(0, 5), 0);
        CHECK.due("field(0, -1)", x.field(0, -1), OwedFurrows.BAD);
        CHECK.due("field(0, 6)", x.field(0, 6), OwedFurrows.BAD);
        CHECK.due("field(-1, 0)", x.field(-1, 0), OwedFurrows.UNKNOWN);
        CHECK.due("field(2, 9): UNKNOWN is told first", x.field(2, 9), OwedFurrows.UNKNOWN);
    }

    private static void eater() {
        OwedFurrows x = Check.of("FG399G699G299E430E451E453E402");
        x.cake(0, 0, 1);
        x.eat(0, 2);
        x.cake(1, 0, 1);
        x.eat(1, 2);
        x.eat(2, 1);
        x.eat(3, 0);
        CHECK.due("walks in part: fields", x.eater(0, 4), 5);
        CHECK.due("walks in part: way", x.eater(0, 5), 2);
        CHECK.due("owes together", x.eater(0, 3), 3);
        CHECK.due("a tramp: fields", x.eater(1, 4), 7);
        CHECK.due("a tramp: way", x.eater(1, 5), 6);
        CHECK.due("a choosy one: way", x.eater(2, 5), 2);
        CHECK.due("too far: fields", x.eater(3, 4), 0);
        CHECK.due("too far: way", x.eater(3, 5), 0);
        CHECK.due("an army owes", x.eater(3, 3), 2);
        long[] due = {4, 5, 1};
        for (int what = 0; what <= 2; what++) {
            CHECK.due("eater(1, " + what + ")", x.eater(1, what), due[what]);
        }
        CHECK.due("nothing walked in truth", x.owes(0, 0), 1);
        CHECK.due("eater(0, -1)", x.eater(0, -1), OwedFurrows.BAD);
        CHECK.due("eater(0, 6)", x.eater(0, 6), OwedFurrows.BAD);
        CHECK.due("eater(-1, 0)", x.eater(-1, 0), OwedFurrows.UNKNOWN);
        CHECK.due("eater(4, 6): UNKNOWN is told first", x.eater(4, 6), OwedFurrows.UNKNOWN);
    }

    private static void owes() {
        OwedFurrows x = Check.of("FG399G699E400E402");
        x.eat(1, 0);
        x.eat(0, 1);
        x.eat(0, 1);
        x.eat(0, 1);
        CHECK.due("owes(0, 0)", x.owes(0, 0), 0);
        CHECK.due("owes(0, 1)", x.owes(0, 1), 3);
        CHECK.due("owes(1, 0)", x.owes(1, 0), 2);
        CHECK.due("owes(1, 1)", x.owes(1, 1), 0);
        CHECK.due("owes(2, 0)", x.owes(2, 0), OwedFurrows.UNKNOWN);
        CHECK.due("owes(0, 2)", x.owes(0, 2), OwedFurrows.UNKNOWN);
        CHECK.due("owes(-1, 0)", x.owes(-1, 0), OwedFurrows.UNKNOWN);
        CHECK.due("owes(0, -1)", x.owes(0, -1), OwedFurrows.UNKNOWN);
    }
}
