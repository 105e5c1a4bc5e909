/** Promises 15 to 19: ahead, wants, rid, judge, share. */
public final class YearsToComeTest {
    private static final Check CHECK = new Check();

    public static void main(String[] args) {
        ahead();
        wants();
        wantsByWhoCan();
        rid();
        judge();
        judgeOfWrongDoings();
        judgeRefused();
        share();
        nothingIsChanged();
        CHECK.end();
    }

    private static void ahead() {
        OwedFurrows x = Check.of("FG132E100");
        x.eat(0, 0);
        x.eat(0, 0);
        CHECK.due("ahead(0, 0)", x.ahead(0, 0), 1);
        CHECK.due("ahead(0, 1)", x.ahead(0, 1), 4);
        CHECK.due("ahead(0, 9)", x.ahead(0, 9), 4);
        CHECK.due("ahead(0, -1)", x.ahead(0, -1), OwedFurrows.BAD);
        CHECK.due("ahead(0, 10)", x.ahead(0, 10), OwedFurrows.BAD);
        CHECK.due("ahead(-1, 0)", x.ahead(-1, 0), OwedFurrows.UNKNOWN);
        CHECK.due("ahead(1, 10): UNKNOWN is told first", x.ahead(1, 10), OwedFurrows.UNKNOWN);
        OwedFurrows y = Check.of("FG791G391E520");
        y.cake(0, 0, 1);
        CHECK.due("the near field in one year", y.ahead(0, 1), 17);
        CHECK.due("the far field in one year", y.ahead(1, 1), 8);
        CHECK.due("the far field in two years", y.ahead(1, 2), 17);
        CHECK.due("the near field in two years", y.ahead(0, 2), 17);
        y.march();
        CHECK.due("seed that is there counts", y.ahead(0, 1), 17);
    }

    private static void wants() {
        OwedFurrows x = Check.of("FG193E100E102E100");
        CHECK.due("of like ones the least", x.wants(0), 3);
        CHECK.due("wants(-1)", x.wants(-1), OwedFurrows.UNKNOWN);
        CHECK.due("wants(1)", x.wants(1), OwedFurrows.UNKNOWN);
        x.eat(2, 0);
        CHECK.due("what is owed counts", x.wants(0), 2);
        x.eat(2, 0);
        CHECK.due("one is enough then", x.wants(0), 1);
        x.eat(2, 0);
        CHECK.due("nobody is needed", x.wants(0), 0);
        x.march();
        CHECK.due("nobody is needed when it is sown", x.wants(0), 0);
        CHECK.due("the fewest, not the least", Check.of("FG192E100E100E102").wants(0), 4);
        CHECK.due("all five", Check.of("FG195E100E100E100E100E100").wants(0), 31);
        CHECK.due("nobody there", Check.of("FG191").wants(0), OwedFurrows.NONE);
    }

    private static void wantsByWhoCan() {
        CHECK.due("too few loaves", Check.of("FG123E100E102E100").wants(0), OwedFurrows.NONE);
        CHECK.due("just so many loaves", Check.of("FG133E100E102E100").wants(0), 3);
        CHECK.due("too far", Check.of("FG191E300E310E320").wants(0), 4);
        OwedFurrows x = Check.of("FG292G393E203E200E200");
        CHECK.due("a choosy one that owes nothing", x.wants(0), 3);
        x.eat(0, 1);
        CHECK.due("a choosy one that owes", x.wants(0), 6);
        OwedFurrows y = Check.of("FG691G392E520E001");
        y.eat(0, 1);
        CHECK.due("one that owes it eats once more", y.wants(1), 1);
        y.eat(1, 1);
        CHECK.due("both are enough", y.wants(1), 0);
        y.eat(0, 0);
        CHECK.due("a nearer field keeps one from it", y.wants(1), 2);
    }

    private static void rid() {
        OwedFurrows x = Check.of("FG399G699G299E430E451E453E402");
        CHECK.due("rid of one that owes nothing", x.rid(0), 0);
        x.cake(0, 0, 1);
        x.eat(0, 2);
        x.cake(1, 0, 1);
        x.eat(2, 1);
        x.eat(3, 0);
        CHECK.due("rid of a plain one", x.rid(0), 6);
        CHECK.due("rid of a tramp", x.rid(1), 0);
        CHECK.due("rid of a choosy one", x.rid(2), 2);
        CHECK.due("rid of an army", x.rid(3), 1);
        CHECK.due("rid(-1)", x.rid(-1), OwedFurrows.UNKNOWN);
        CHECK.due("rid(4)", x.rid(4), OwedFurrows.UNKNOWN);
        OwedFurrows y = Check.of("FG019G919E500");
        y.cake(0, 0, 1);
        CHECK.due("rid by the nearest first, not the shortest way", y.rid(0), 13);
    }

    private static void judge() {
        OwedFurrows x = Check.of("FG132G241E190E202E201");
        CHECK.due("two marches", x.judge(2, 0), OwedFurrows.NONE);
        CHECK.due("a march, a harvest", x.judge(2, 100), OwedFurrows.NONE);
        CHECK.due("eaten", x.judge(1, 200), OwedFurrows.NONE);
        CHECK.due("eaten, owed", x.judge(2, 200500), OwedFurrows.NONE);
        CHECK.due("owed to another field", x.judge(2, 200501), 1);
        CHECK.due("owed by another eater", x.judge(2, 200510), 1);
        CHECK.due("owed no more behind a march", x.judge(3, 200000500), 2);
        CHECK.due("eaten twice, marched, sown", x.judge(4, 200200000300L), OwedFurrows.NONE);
        CHECK.due("eaten once, marched, sown", x.judge(3, 200000300), 2);
        CHECK.due("eaten twice, sown at once", x.judge(3, 200200300), 2);
        CHECK.due("an army eats twice", x.judge(2, 211211), OwedFurrows.NONE);
        CHECK.due("an army eats thrice", x.judge(3, 211211211), 2);
        CHECK.due("as many loaves", x.judge(1, 403), OwedFurrows.NONE);
        CHECK.due("more loaves", x.judge(1, 404), 0);
        CHECK.due("no loaves or more", x.judge(1, 400), OwedFurrows.NONE);
        CHECK.due("loaves behind a harvest", x.judge(4, 211000100416L), OwedFurrows.NONE);
        CHECK.due("too many behind a harvest", x.judge(4, 211000100417L), 3);
        CHECK.due("the first of two", x.judge(4, 504505L), 2);
        CHECK.due("seed is gone behind a harvest", x.judge(4, 211000100301L), 3);
        x.eat(0, 0);
        CHECK.due("what is owed already", x.judge(1, 500), OwedFurrows.NONE);
        x.march();
        x.eat(2, 1);
        x.march();
        CHECK.due("what is sown already", x.judge(1, 301), OwedFurrows.NONE);
    }

    private static void judgeOfWrongDoings() {
        OwedFurrows x = Check.of("FG199E190");
        x.eat(0, 0);
        x.march();
        long[] wrong = {1, 10, 99, 101, 110, 199, 210, 201, 290, 209, 310, 390, 301, 309,
            410, 490, 510, 501, 590, 509, 600, 700, 800, 900, 999};
        for (long doing : wrong) {
            CHECK.due("judge(1, " + doing + ")", x.judge(1, doing), 0);
            CHECK.due("judge(2, " + doing + ")", x.judge(2, doing), 1);
        }
        CHECK.due("figures as they stand", x.judge(4, 999000000000L), 0);
    }

    private static void judgeRefused() {
        OwedFurrows x = Check.of("FG199E190");
        CHECK.due("judge(0, 0)", x.judge(0, 0), OwedFurrows.BAD);
        CHECK.due("judge(5, 0)", x.judge(5, 0), OwedFurrows.BAD);
        CHECK.due("judge(-1, 0)", x.judge(-1, 0), OwedFurrows.BAD);
        CHECK.due("judge(1, -1)", x.judge(1, -1), OwedFurrows.BAD);
        CHECK.due("judge(1, least)", x.judge(1, Long.MIN_VALUE), OwedFurrows.BAD);
        CHECK.due("judge(4, most)", x.judge(4, Long.MAX_VALUE), OwedFurrows.BAD);
        long limit = 1;
        for (int n = 1; n <= 4; n++) {
            limit *= 1000;
            CHECK.due("judge with a figure too many", x.judge(n, limit), OwedFurrows.BAD);
            CHECK.due("judge with all figures", x.judge(n, limit - 1), 0);
        }
    }

    private static void dueShare(OwedFurrows x, int eater, int above, int below) {
        CHECK.due("share(" + eater + ", true)", x.share(eater, true), above);
        CHECK.due("share(" + eater + ", false)", x.share(eater, false), below);
    }

    private static void share() {
        OwedFurrows thirds = Check.of("FG192E100E100E100");
        for (int eater = 0; eater < 3; eater++) {
            dueShare(thirds, eater, 0, 1);
            thirds.eat(eater, 0);
        }
        for (int eater = 0; eater < 3; eater++) {
            dueShare(thirds, eater, 1, 3);
        }
        thirds.march();
        dueShare(thirds, 0, 0, 1);
        OwedFurrows army = Check.of("FG193E102E100E100E100");
        army.eat(0, 0);
        army.eat(1, 0);
        army.eat(2, 0);
        dueShare(army, 0, 2, 3);
        dueShare(army, 1, 1, 6);
        dueShare(army, 2, 1, 6);
        dueShare(army, 3, 0, 1);
        OwedFurrows two = Check.of("FG191G191E100E100");
        two.cake(0, 0, 1);
        two.eat(1, 0);
        dueShare(two, 0, 3, 2);
        dueShare(two, 1, 1, 2);
        OwedFurrows five = Check.of("FG191E100E100E100E100E100");
        for (int eater = 0; eater < 5; eater++) {
            five.eat(eater, 0);
        }
        dueShare(five, 4, 1, 5);
        OwedFurrows alone = Check.of("FG191E100");
        alone.eat(0, 0);
        dueShare(alone, 0, 1, 1);
        CHECK.due("share(-1, true)", alone.share(-1, true), OwedFurrows.UNKNOWN);
        CHECK.due("share(1, false)", alone.share(1, false), OwedFurrows.UNKNOWN);
    }

    private static void nothingIsChanged() {
        OwedFurrows x = Check.of("FG132G241E190E202E201");
        x.eat(0, 0);
        x.cake(2, 0, 1);
        Object before = Check.allOf(x);
        x.ahead(0, 9);
        x.wants(0);
        x.wants(1);
        x.rid(0);
        x.judge(4, 200000100300L);
        x.share(2, true);
        CHECK.due("all behind questions", Check.allOf(x), before);
    }
}
