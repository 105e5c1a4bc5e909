import java.util.function.IntPredicate;

/** Boundary cases of promises 1 to 5, each under the words of the document that name it. */
public final class TextBoundariesTest {
    private static final Check CHECK = new Check();
    private static final int LATE = OwedFurrows.LATE;
    private static final int BAD = OwedFurrows.BAD;
    private static final int NONE = OwedFurrows.NONE;
    private static final int UNKNOWN = OwedFurrows.UNKNOWN;
    private static final String FULL_COUNTRY = "FG111G111G111G111E000E000E000E000E000";

    public static void main(String[] args) {
        emptyCountryTold();
        emptyCountryActed();
        emptyCountryAsked();
        anyByte();
        fortyEight();
        wipeEmptyAndFull();
        eachByteOfTheFirstThing();
        eachByteOfTheLastThing();
        faultWhateverComesBehind();
        faultByLength();
        faultOfEachLengthSetAside();
        mostFields();
        mostEaters();
        wipedBytesAreGone();
        countryBySize();
        countryOfFaults();
        countryGoneAnew();
        countryLeavesNothingOfTheLast();
        countryKeepsCameAndSeed();
        countryWithAFaultChangesNothing();
        CHECK.end();
    }

    // ---- promise 1

    private static void emptyCountryTold() {
        CHECK.sentence("An empty country. / At first there is nothing.");
        OwedFurrows x = new OwedFurrows();
        for (int what = 0; what <= 10; what++) {
            CHECK.due("about(" + what + ")", x.about(what), 0);
        }
        for (int number = 0; number <= 5; number++) {
            CHECK.due("field(" + number + ", 0)", x.field(number, 0), UNKNOWN);
            CHECK.due("eater(" + number + ", 0)", x.eater(number, 0), UNKNOWN);
            CHECK.due("owes(" + number + ", 0)", x.owes(number, 0), UNKNOWN);
            CHECK.due("owes(0, " + number + ")", x.owes(0, number), UNKNOWN);
        }
        CHECK.due("fault()", x.fault(), 0);
        CHECK.due("country()", x.country(), LATE);
        CHECK.due("wipe()", x.wipe(), 0);
        CHECK.due("forget()", x.forget(), 0);
        CHECK.due("seed(1)", x.seed(1), 0);
    }

    private static void emptyCountryActed() {
        CHECK.sentence("An empty country.");
        OwedFurrows x = new OwedFurrows();
        CHECK.due("undo()", x.undo(), LATE);
        CHECK.due("again(0)", x.again(0), LATE);
        CHECK.due("again(1)", x.again(1), LATE);
        CHECK.due("eat(0, 0)", x.eat(0, 0), UNKNOWN);
        CHECK.due("cake(0, 0, 1)", x.cake(0, 0, 1), UNKNOWN);
        CHECK.due("march()", x.march(), 0);
        CHECK.due("harvest()", x.harvest(), 0);
        CHECK.due("the year behind a harvest", x.about(2), 1);
        CHECK.due("keep(0)", x.keep(0), 1);
        CHECK.due("undo()", x.undo(), 1);
        CHECK.due("the year undone", x.about(2), 0);
        CHECK.due("again(0)", x.again(0), 1);
        CHECK.due("acts when one goes on", x.about(8), 0);
    }

    private static void emptyCountryAsked() {
        CHECK.sentence("An empty country.");
        OwedFurrows x = new OwedFurrows();
        CHECK.due("ahead(0, 0)", x.ahead(0, 0), UNKNOWN);
        CHECK.due("wants(0)", x.wants(0), UNKNOWN);
        CHECK.due("rid(0)", x.rid(0), UNKNOWN);
        CHECK.due("share(0, true)", x.share(0, true), UNKNOWN);
        CHECK.due("rests(0, 1, 0, 0)", x.rests(0, 1, 0, 0), UNKNOWN);
        CHECK.due("home(0, 0, true)", x.home(0, 0, true), UNKNOWN);
        CHECK.due("judge(4, four harvests)", x.judge(4, 100100100100L), NONE);
        CHECK.due("judge(1, eaten)", x.judge(1, 200), 0);
        CHECK.due("judge(1, sown)", x.judge(1, 300), 0);
        CHECK.due("judge(1, no loaves or more)", x.judge(1, 400), 0);
        CHECK.due("judge(1, owed)", x.judge(1, 500), 0);
        CHECK.due("strangers(0)", x.strangers(0), 100);
        CHECK.due("strangers(1)", x.strangers(1), 0);
        CHECK.due("years(1)", x.years(1), 0);
        CHECK.due("the seed behind years(1)", x.seed(0), 1442695040888963407L);
    }

    // ---- promise 2

    private static void anyByte() {
        CHECK.sentence("A byte (0 .. 255) comes behind THE TEXT: how long it is. BAD");
        OwedFurrows x = new OwedFurrows();
        int[] wrong = {-1, 256, -255, -256, 326, 65536 + 70, Integer.MIN_VALUE, Integer.MAX_VALUE};
        for (int letter : wrong) {
            CHECK.due("write(" + letter + ")", x.write(letter), BAD);
            CHECK.due("nothing is written", x.about(10), 0);
        }
        for (int letter = 0; letter <= 255; letter++) {
            CHECK.due("write(" + letter + ")", x.write(letter), letter % 48 + 1);
            if (letter % 48 == 47) {
                x.wipe();
            }
        }
    }

    private static void fortyEight() {
        CHECK.sentence("FULL: there are 48");
        OwedFurrows x = new OwedFurrows();
        for (int round = 0; round < 2; round++) {
            for (int length = 1; length <= 48; length++) {
                CHECK.due("write(0)", x.write(0), length);
            }
            CHECK.due("write(0) behind 48", x.write(0), OwedFurrows.FULL);
            CHECK.due("write(255) behind 48", x.write(255), OwedFurrows.FULL);
            CHECK.due("write(256) behind 48", x.write(256), BAD);
            CHECK.due("write(-1) behind 48", x.write(-1), BAD);
            CHECK.due("about(10)", x.about(10), 48);
            CHECK.due("wipe()", x.wipe(), 48);
        }
        CHECK.sentence("What is refused changes nothing");
        Check.writeAll(x, "G" + "F".repeat(47));
        x.write('F');
        CHECK.due("fault(): the first byte is what it was", x.fault(), 0);
    }

    // ---- promise 3

    private static void wipeEmptyAndFull() {
        CHECK.sentence("THE TEXT is empty: how long it was.");
        OwedFurrows x = new OwedFurrows();
        CHECK.due("wipe() of nothing", x.wipe(), 0);
        x.write('F');
        CHECK.due("wipe() of one", x.wipe(), 1);
        CHECK.due("about(10)", x.about(10), 0);
        CHECK.due("wipe() again", x.wipe(), 0);
        CHECK.due("country()", x.country(), LATE);
        CHECK.due("write('F') is the first again", x.write('F'), 1);
    }

    // ---- promise 4

    /** Every byte at a place behind a text that is right so far. */
    private static void dueAtPlace(String before, boolean isEnd, IntPredicate fits) {
        int place = before.length();
        for (int letter = 0; letter <= 255; letter++) {
            int due = !fits.test(letter) ? place : isEnd ? NONE : place + 1;
            CHECK.due("fault of " + before + " and byte " + letter,
                    Check.faultOf(before + (char) letter), due);
        }
    }

    private static void dueInField(String before) {
        dueAtPlace(before + "G", false, c -> c >= '0' && c <= '9');
        dueAtPlace(before + "G0", false, c -> c >= '1' && c <= '9');
        dueAtPlace(before + "G01", true, c -> c >= '1' && c <= '9');
    }

    private static void dueInEater(String before) {
        dueAtPlace(before + "E", false, c -> c >= '0' && c <= '9');
        dueAtPlace(before + "E0", false, c -> c >= '0' && c <= '9');
        dueAtPlace(before + "E00", true, c -> c >= '0' && c <= '3');
    }

    private static void eachByteOfTheFirstThing() {
        CHECK.sentence("F, then THINGS: PLACE 0 .. 9, YIELD 1 .. 9, NEED 1 .. 9; "
                + "PLACE 0 .. 9, WALK 0 .. 9, KIND 0 .. 3");
        dueAtPlace("", true, c -> c == 'F');
        dueAtPlace("F", false, c -> c == 'G' || c == 'E');
        dueInField("F");
        dueInEater("F");
    }

    private static void eachByteOfTheLastThing() {
        CHECK.sentence("THINGS, none or more");
        String seven = "FG999E993G999E990G999E991E992";
        dueAtPlace(seven, false, c -> c == 'G' || c == 'E');
        CHECK.sentence("FIELDS (4 at most), EATERS (5 at most)");
        dueAtPlace(seven + "G111", false, c -> c == 'E');
        dueInEater(seven + "G111");
        dueAtPlace(seven + "E000", false, c -> c == 'G');
        dueInField(seven + "E000");
        dueAtPlace(FULL_COUNTRY, false, c -> false);
    }

    private static void faultWhateverComesBehind() {
        CHECK.sentence("the place of the first byte by which THE TEXT can be no COUNTRY, "
                + "whatever came behind it");
        String[] wrong = {"X", "FX", "FGX", "FG1X", "FG11X", "FEX", "FE1X", "FE11X", "FG111X",
            "FE003GX", "FE003G1X", "FG00", "FG010", "FE004", FULL_COUNTRY + "X"};
        for (String text : wrong) {
            for (String behind : new String[] {"", "F", "X", "G111", "E000", "1", "F1X"}) {
                CHECK.due("fault of " + text + behind, Check.faultOf(text + behind),
                        text.length() - 1);
            }
        }
    }

    private static void faultByLength() {
        CHECK.sentence("its length, if it is only not at its end; NONE: none");
        for (int length = 0; length <= FULL_COUNTRY.length(); length++) {
            CHECK.due("fault of the first " + length + " bytes",
                    Check.faultOf(FULL_COUNTRY.substring(0, length)),
                    length % 4 == 1 ? NONE : length);
        }
    }

    private static void faultOfEachLengthSetAside() {
        CHECK.sentence("(its length set aside)");
        CHECK.due("fault of 48 bytes", Check.faultOf(FULL_COUNTRY + "G111G111E00"), 37);
        CHECK.due("fault of 48 F", Check.faultOf("F".repeat(48)), 1);
        CHECK.due("fault of 48 G", Check.faultOf("G".repeat(48)), 0);
    }

    private static void mostFields() {
        CHECK.sentence("FIELDS are 0, 1, .. (4 at most)");
        CHECK.due("four", Check.faultOf("FG111G111G111G111"), NONE);
        CHECK.due("five", Check.faultOf("FG111G111G111G111G111"), 17);
        CHECK.due("five, not at their end", Check.faultOf("FG111G111G111G111G"), 17);
        CHECK.due("an eater behind four", Check.faultOf("FG111G111G111G111E000"), NONE);
        CHECK.due("five, eaters among them",
                Check.faultOf("FE000G111E000G111E000G111E000G111E000G"), 37);
        CHECK.due("five behind an eater", Check.faultOf("FE000G111G111G111G111G111"), 21);
    }

    private static void mostEaters() {
        CHECK.sentence("EATERS 0, 1, .. (5 at most)");
        CHECK.due("five", Check.faultOf("FE000E000E000E000E000"), NONE);
        CHECK.due("six", Check.faultOf("FE000E000E000E000E000E000"), 21);
        CHECK.due("six, not at their end", Check.faultOf("FE000E000E000E000E000E"), 21);
        CHECK.due("a field behind five", Check.faultOf("FE000E000E000E000E000G111"), NONE);
        CHECK.due("six, fields among them",
                Check.faultOf("FG111E000G111E000E000G111E000E000E000"), 33);
        CHECK.due("six behind four fields",
                Check.faultOf("FG111G111G111G111E000E000E000E000E000E"), 37);
    }

    private static void wipedBytesAreGone() {
        CHECK.sentence("THE TEXT is empty");
        String[] texts = {"", "F", "FG", "FG1", "FG11", "FE", "FE1", "FE11", "FG111", "FG111E",
            "FG111E00"};
        for (String text : texts) {
            OwedFurrows x = new OwedFurrows();
            Check.writeAll(x, "FG111G111G111G111");
            x.wipe();
            Check.writeAll(x, text);
            CHECK.due("fault of " + text + " behind a wiped text", x.fault(),
                    text.length() % 4 == 1 ? NONE : text.length());
        }
    }

    // ---- promise 5

    private static void dueCountry(String text, int want) {
        OwedFurrows x = new OwedFurrows();
        Check.writeAll(x, text);
        CHECK.due("country() of " + text, x.country(), want);
        CHECK.due("fields of " + text, x.about(0), want / 10);
        CHECK.due("eaters of " + text, x.about(1), want % 10);
        CHECK.due("country() of it again", x.country(), want);
    }

    private static void countryBySize() {
        CHECK.sentence("THE TEXT is THE COUNTRY: 10 times FIELDS, and EATERS.");
        dueCountry("F", 0);
        dueCountry("FG111", 10);
        dueCountry("FE000", 1);
        dueCountry("FG111G111G111G111", 40);
        dueCountry("FE000E000E000E000E000", 5);
        dueCountry(FULL_COUNTRY, 45);
        CHECK.sentence("numbered as they are told, each kind for itself");
        OwedFurrows x = Check.of("FE993G019E000G991");
        long[][] things = {{9, 9, 3}, {0, 0, 0}, {0, 1, 9}, {9, 9, 1}};
        for (int what = 0; what <= 2; what++) {
            CHECK.due("eater(0, " + what + ")", x.eater(0, what), things[0][what]);
            CHECK.due("eater(1, " + what + ")", x.eater(1, what), things[1][what]);
            CHECK.due("field(0, " + what + ")", x.field(0, what), things[2][what]);
            CHECK.due("field(1, " + what + ")", x.field(1, what), things[3][what]);
        }
    }

    private static void countryOfFaults() {
        CHECK.sentence("LATE: a FAULT.");
        String[] texts = {"", "G", "FX", "FG", "FG1", "FG11", "FG011X", "FG001", "FG010", "FE004",
            FULL_COUNTRY + "G", FULL_COUNTRY + "G111", "FG111G111G111G111G111",
            "FE000E000E000E000E000E000"};
        for (String text : texts) {
            OwedFurrows x = new OwedFurrows();
            Check.writeAll(x, text);
            CHECK.due("country() of " + text, x.country(), LATE);
            CHECK.due("about(0)", x.about(0), 0);
            CHECK.due("about(1)", x.about(1), 0);
            CHECK.due("the text stays", x.about(10), text.length());
        }
    }

    /** With seed in fields, debts, years, acts and both slots, in a country that is told again. */
    private static OwedFurrows lived() {
        OwedFurrows x = Check.of("FG191G292E090E202E103");
        x.eat(0, 0);
        x.march();
        x.harvest();
        x.keep(0);
        x.eat(2, 0);
        x.march();
        x.keep(1);
        x.cake(1, 0, 1);
        x.cake(0, 0, 1);
        return x;
    }

    private static void countryGoneAnew() {
        OwedFurrows x = lived();
        CHECK.due("country() anew", x.country(), 23);
        CHECK.sentence("each FIELD has as many LOAVES as its YIELD");
        CHECK.due("field(0, 3)", x.field(0, 3), 9);
        CHECK.due("field(1, 3)", x.field(1, 3), 9);
        CHECK.sentence("no SEED");
        CHECK.due("about(4)", x.about(4), 0);
        CHECK.due("about(6)", x.about(6), 0);
        CHECK.sentence("nobody OWES anything");
        CHECK.due("about(5)", x.about(5), 0);
        CHECK.sentence("THE YEAR is 0");
        CHECK.due("about(2)", x.about(2), 0);
        CHECK.sentence("no ACTS");
        CHECK.due("about(8)", x.about(8), 0);
        CHECK.due("undo()", x.undo(), LATE);
        CHECK.sentence("what was kept is gone");
        CHECK.due("again(0)", x.again(0), LATE);
        CHECK.due("again(1)", x.again(1), LATE);
    }

    private static void countryLeavesNothingOfTheLast() {
        CHECK.sentence("When THE COUNTRY is made anew");
        OwedFurrows x = lived();
        x.country();
        CHECK.due("all of it, made anew", Check.wholeOf(x),
                Check.wholeOf(Check.of("FG191G292E090E202E103")));
        for (String text : new String[] {"F", "FG342", "FE342", "FG342E111",
            "FG191G292G393G494E090E202E103E001E000"}) {
            OwedFurrows y = lived();
            y.wipe();
            Check.writeAll(y, text);
            y.country();
            CHECK.due("all of " + text, Check.wholeOf(y), Check.wholeOf(Check.of(text)));
        }
        OwedFurrows z = lived();
        z.wipe();
        z.write('F');
        z.country();
        z.wipe();
        Check.writeAll(z, "FG191G292E090E202E103");
        z.country();
        CHECK.due("all of it, behind an empty one", Check.wholeOf(z),
                Check.wholeOf(Check.of("FG191G292E090E202E103")));
    }

    private static void countryKeepsCameAndSeed() {
        CHECK.sentence("CAME, THE SEED stay");
        OwedFurrows x = lived();
        for (int i = 0; i < 6; i++) {
            x.came(9, 1);
        }
        x.seed(Long.MIN_VALUE);
        x.country();
        CHECK.due("about(9)", x.about(9), 6);
        CHECK.due("strangers(1)", x.strangers(1), 9);
        CHECK.due("came(0, 0)", x.came(0, 0), OwedFurrows.FULL);
        CHECK.due("seed(0)", x.seed(0), Long.MIN_VALUE);
    }

    private static OwedFurrows livedWithAFault() {
        OwedFurrows x = lived();
        x.came(3, 1);
        x.seed(8);
        x.wipe();
        Check.writeAll(x, "FG11");
        return x;
    }

    private static void countryWithAFaultChangesNothing() {
        CHECK.sentence("What is refused changes nothing.");
        CHECK.changesNothing("country()", TextBoundariesTest::livedWithAFault,
                x -> x.country(), LATE);
    }
}
