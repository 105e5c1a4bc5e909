/** Boundary cases of promises 20 to 22, each under the words of the document that name it. */
public final class StrangersBoundariesTest {
    private static final Check CHECK = new Check();
    private static final int BAD = OwedFurrows.BAD;
    private static final int FULL = OwedFurrows.FULL;
    private static final int NONE = OwedFurrows.NONE;
    private static final int[] NO_NUMBER = {-1, 10, Integer.MIN_VALUE, Integer.MAX_VALUE};

    public static void main(String[] args) {
        cameBad();
        cameSix();
        cameInAnyCountry();
        forgetNoneAndSix();
        strangersBad();
        strangersOfNothing();
        strangersOfOneTiding();
        strangersJustReach();
        oneStranger();
        noStranger();
        CHECK.end();
    }

    // ---- promise 20

    private static void cameBad() {
        CHECK.sentence("BAD: p, came (0, 1)");
        OwedFurrows x = new OwedFurrows();
        for (int wrong : NO_NUMBER) {
            CHECK.due("came(" + wrong + ", 0)", x.came(wrong, 0), BAD);
            CHECK.due("came(" + wrong + ", 1)", x.came(wrong, 1), BAD);
            CHECK.due("came(0, " + wrong + ")", x.came(0, wrong), BAD);
            CHECK.due("came(9, " + wrong + ")", x.came(9, wrong), BAD);
        }
        CHECK.due("came(0, 2)", x.came(0, 2), BAD);
        CHECK.due("about(9)", x.about(9), 0);
        CHECK.due("strangers(0)", x.strangers(0), 100);
        CHECK.due("came(0, 0)", x.came(0, 0), 1);
        CHECK.due("came(0, 1)", x.came(0, 1), 2);
        CHECK.due("came(9, 0)", x.came(9, 0), 3);
        CHECK.due("came(9, 1)", x.came(9, 1), 4);
    }

    private static void cameSix() {
        CHECK.sentence("6 such at most, none at first / FULL: 6");
        OwedFurrows x = new OwedFurrows();
        CHECK.due("about(9)", x.about(9), 0);
        for (int many = 1; many <= 6; many++) {
            CHECK.due("came(4, 1), the same again", x.came(4, 1), many);
        }
        CHECK.due("came(4, 1)", x.came(4, 1), FULL);
        CHECK.due("came(4, 0)", x.came(4, 0), FULL);
        CHECK.sentence("Of several what is told first.");
        CHECK.due("came(10, 1)", x.came(10, 1), BAD);
        CHECK.due("came(4, 2)", x.came(4, 2), BAD);
        CHECK.sentence("What is refused changes nothing.");
        CHECK.due("about(9)", x.about(9), 6);
        CHECK.due("strangers(0)", x.strangers(0), 75);
        CHECK.sentence("FULL: 6");
        x.forget();
        for (int many = 1; many <= 6; many++) {
            CHECK.due("came(0, 0) behind forget()", x.came(0, 0), many);
        }
        CHECK.due("came(0, 0)", x.came(0, 0), FULL);
        CHECK.due("the sixth counts too: strangers(1)", x.strangers(1), 10);
    }

    private static void cameInAnyCountry() {
        CHECK.sentence("an unknown EATER that OWED one FIELD alone, at PLACE p");
        OwedFurrows x = Check.of("FG111E000");
        CHECK.due("at a place without a field", x.came(7, 1), 1);
        CHECK.due("without a country", new OwedFurrows().came(7, 1), 1);
        x.eat(0, 0);
        x.undo();
        x.keep(0);
        x.came(2, 0);
        x.again(0);
        CHECK.due("undo and again leave it", x.about(9), 2);
    }

    // ---- promise 21

    private static void forgetNoneAndSix() {
        CHECK.sentence("Nothing CAME: how much there was.");
        OwedFurrows x = new OwedFurrows();
        CHECK.due("forget() of nothing", x.forget(), 0);
        for (int many = 1; many <= 6; many++) {
            for (int tiding = 0; tiding < many; tiding++) {
                x.came(tiding, 0);
            }
            CHECK.due("forget()", x.forget(), many);
            CHECK.due("about(9)", x.about(9), 0);
            CHECK.due("strangers(0)", x.strangers(0), 100);
        }
        CHECK.due("forget() again", x.forget(), 0);
    }

    // ---- promise 22

    private static void strangersBad() {
        CHECK.sentence("how many (what = 0), the first one (1). BAD.");
        OwedFurrows x = new OwedFurrows();
        for (int wrong : NO_NUMBER) {
            CHECK.due("strangers(" + wrong + ")", x.strangers(wrong), BAD);
        }
        CHECK.due("strangers(2)", x.strangers(2), BAD);
        x.came(5, 1);
        x.came(5, 0);
        CHECK.due("strangers(2) of none", x.strangers(2), BAD);
    }

    private static void strangersOfNothing() {
        CHECK.sentence("how many (100 there are); the first one (10 times HOME and WALK)");
        OwedFurrows x = new OwedFurrows();
        CHECK.due("strangers(0)", x.strangers(0), 100);
        CHECK.due("strangers(1)", x.strangers(1), 0);
    }

    private static void strangersOfOneTiding() {
        CHECK.sentence("HOMES and WALKS by which all that CAME is so");
        int[] reaching = {55, 63, 69, 73, 75, 75, 73, 69, 63, 55};
        for (int p = 0; p <= 9; p++) {
            OwedFurrows came = new OwedFurrows();
            came.came(p, 1);
            CHECK.due("came to " + p + ": how many", came.strangers(0), reaching[p]);
            CHECK.due("came to " + p + ": home 0", came.strangers(1), p);
            OwedFurrows not = new OwedFurrows();
            not.came(p, 0);
            CHECK.due("did not come to " + p, not.strangers(0), 100 - reaching[p]);
            CHECK.due("did not come to " + p, not.strangers(1), p == 0 ? 10 : 0);
        }
    }

    private static void strangersJustReach() {
        CHECK.sentence("no TRAMP / no farther than its WALK");
        OwedFurrows x = new OwedFurrows();
        x.came(9, 1);
        x.came(0, 0);
        CHECK.due("reach 9, not 0", x.strangers(0), 1 + 3 + 5 + 7 + 9);
        CHECK.due("home 5, walk 4", x.strangers(1), 54);
        OwedFurrows y = new OwedFurrows();
        y.came(0, 1);
        y.came(9, 1);
        CHECK.due("reach both ends", y.strangers(0), 2 * (1 + 2 + 3 + 4 + 5));
        CHECK.due("home 0, walk 9", y.strangers(1), 9);
    }

    private static void oneStranger() {
        CHECK.sentence("the first one (10 times HOME and WALK)");
        for (int place = 1; place <= 8; place++) {
            OwedFurrows x = new OwedFurrows();
            x.came(place, 1);
            x.came(place - 1, 0);
            x.came(place + 1, 0);
            CHECK.due("at home at " + place + ": how many", x.strangers(0), 1);
            CHECK.due("at home at " + place + ": the first", x.strangers(1), 10 * place);
        }
        OwedFurrows last = new OwedFurrows();
        last.came(9, 1);
        last.came(8, 0);
        CHECK.due("at the end of the road", last.strangers(0), 1);
        CHECK.due("at the end of the road", last.strangers(1), 90);
    }

    private static void noStranger() {
        CHECK.sentence("NONE.");
        OwedFurrows x = new OwedFurrows();
        x.came(0, 0);
        x.came(0, 1);
        CHECK.due("both: how many", x.strangers(0), 0);
        CHECK.due("both: the first", x.strangers(1), NONE);
        OwedFurrows y = new OwedFurrows();
        y.came(3, 1);
        y.came(5, 1);
        y.came(4, 0);
        CHECK.due("not between them: how many", y.strangers(0), 0);
        CHECK.due("not between them: the first", y.strangers(1), NONE);
        y.forget();
        CHECK.due("forgotten: how many", y.strangers(0), 100);
        CHECK.due("forgotten: the first", y.strangers(1), 0);
    }
}
