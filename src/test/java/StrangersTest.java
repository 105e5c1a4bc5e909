/** Promises 20 to 22: came, forget, strangers. */
public final class StrangersTest {
    private static final Check CHECK = new Check();

    public static void main(String[] args) {
        came();
        forget();
        strangers();
        CHECK.end();
    }

    private static void came() {
        OwedFurrows x = new OwedFurrows();
        CHECK.due("came(-1, 0)", x.came(-1, 0), OwedFurrows.BAD);
        CHECK.due("came(10, 0)", x.came(10, 0), OwedFurrows.BAD);
        CHECK.due("came(0, -1)", x.came(0, -1), OwedFurrows.BAD);
        CHECK.due("came(0, 2)", x.came(0, 2), OwedFurrows.BAD);
        CHECK.due("refused: none came", x.about(9), 0);
        for (int many = 1; many <= 6; many++) {
            CHECK.due("came", x.came(many % 2 * 9, 1), many);
            CHECK.due("about(9)", x.about(9), many);
        }
        CHECK.due("came(0, 0) behind 6", x.came(0, 0), OwedFurrows.FULL);
        CHECK.due("came(10, 0) behind 6: BAD is told first", x.came(10, 0), OwedFurrows.BAD);
        CHECK.due("refused: 6 came", x.about(9), 6);
        CHECK.due("refused: strangers", x.strangers(0), 30);
    }

    private static void forget() {
        OwedFurrows x = new OwedFurrows();
        CHECK.due("forget() of nothing", x.forget(), 0);
        x.came(3, 1);
        x.came(3, 0);
        CHECK.due("forget()", x.forget(), 2);
        CHECK.due("forget() again", x.forget(), 0);
        CHECK.due("about(9)", x.about(9), 0);
        CHECK.due("strangers(0)", x.strangers(0), 100);
        CHECK.due("came(0, 1)", x.came(0, 1), 1);
    }

    private static void strangers() {
        OwedFurrows x = new OwedFurrows();
        CHECK.due("all", x.strangers(0), 100);
        CHECK.due("the first of all", x.strangers(1), 0);
        x.came(4, 1);
        CHECK.due("one came: 100 less all that is too far", x.strangers(0), 75);
        CHECK.due("the first: home 0, walk 4", x.strangers(1), 4);
        x.came(2, 0);
        CHECK.due("home 3: walk none, home 4: 0, 1, ..", x.strangers(0), 2 + 2 + 2 + 2 + 2 + 2);
        CHECK.due("the first: home 4, walk 0", x.strangers(1), 40);
        x.came(9, 1);
        CHECK.due("9 from 7, 8, 9 alone", x.strangers(0), 2 + 2 + 2 + 1);
        CHECK.due("the first: home 6, walk 3", x.strangers(1), 63);
        x.came(6, 0);
        CHECK.due("4 and not 6, from right of both", x.strangers(0), 0);
        CHECK.due("none", x.strangers(1), OwedFurrows.NONE);
        CHECK.due("strangers(-1)", x.strangers(-1), OwedFurrows.BAD);
        CHECK.due("strangers(2)", x.strangers(2), OwedFurrows.BAD);
        OwedFurrows y = new OwedFurrows();
        y.came(9, 0);
        CHECK.due("one did not come", y.strangers(0), 45);
        CHECK.due("the first: at home", y.strangers(1), 0);
        y.came(0, 1);
        y.came(1, 1);
        y.came(2, 1);
        y.came(3, 1);
        y.came(4, 1);
        CHECK.due("the first of six tidings", y.strangers(1), 4);
    }
}
