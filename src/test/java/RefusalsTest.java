/** Every refusal of every call, each on a new object: what is refused changes nothing. */
public final class RefusalsTest {
    private static final Check CHECK = new Check();
    private static final int[] NO_FIELD = {-1, 2, 4, Integer.MIN_VALUE, Integer.MAX_VALUE};
    private static final int[] NO_EATER = {-1, 3, 5, Integer.MIN_VALUE, Integer.MAX_VALUE};
    private static final int[] NO_NUMBER = {-1, 48, 1000, Integer.MIN_VALUE, Integer.MAX_VALUE};

    public static void main(String[] args) {
        unknown();
        bad();
        late();
        lateWithoutActsOrSlots();
        full();
        CHECK.end();
    }

    /** With six tidings, a full text that is no country, acts, seed in fields, both slots kept. */
    private static OwedFurrows lived() {
        OwedFurrows x = Check.of("FG232G551E290E593E081");
        x.eat(0, 0);
        x.keep(0);
        x.eat(1, 1);
        x.march();
        x.keep(1);
        x.eat(2, 0);
        x.cake(0, 0, 1);
        x.eat(1, 1);
        x.seed(31);
        for (int i = 0; i < 6; i++) {
            x.came(4, 1);
        }
        x.wipe();
        for (int i = 0; i < 48; i++) {
            x.write('F');
        }
        return x;
    }

    /** What can be read is held against what it was, and all that is inside against a twin. */
    private static void refused(String name, Check.Call call, int want) {
        OwedFurrows x = lived();
        Object before = Check.allOf(x);
        CHECK.due(name, call.on(x), want);
        CHECK.due("all behind " + name, Check.allOf(x), before);
        CHECK.changesNothing(name, RefusalsTest::lived, call, want);
    }

    private static void unknown() {
        int unknown = OwedFurrows.UNKNOWN;
        for (int f : NO_FIELD) {
            refused("field(" + f + ", 0)", x -> x.field(f, 0), unknown);
            refused("owes(0, " + f + ")", x -> x.owes(0, f), unknown);
            refused("eat(0, " + f + ")", x -> x.eat(0, f), unknown);
            refused("cake(0, " + f + ", 0)", x -> x.cake(0, f, 0), unknown);
            refused("cake(0, 0, " + f + ")", x -> x.cake(0, 0, f), unknown);
            refused("ahead(" + f + ", 0)", x -> x.ahead(f, 0), unknown);
            refused("wants(" + f + ")", x -> x.wants(f), unknown);
            refused("rests(0, 1, " + f + ", 0)", x -> x.rests(0, 1, f, 0), unknown);
            refused("home(" + f + ", 5, true)", x -> x.home(f, 5, true), unknown);
            refused("keep(" + f + ")", x -> x.keep(f), unknown);
            refused("again(" + f + ")", x -> x.again(f), unknown);
        }
        for (int e : NO_EATER) {
            refused("eater(" + e + ", 0)", x -> x.eater(e, 0), unknown);
            refused("owes(" + e + ", 0)", x -> x.owes(e, 0), unknown);
            refused("eat(" + e + ", 0)", x -> x.eat(e, 0), unknown);
            refused("cake(" + e + ", 0, 1)", x -> x.cake(e, 0, 1), unknown);
            refused("rid(" + e + ")", x -> x.rid(e), unknown);
            refused("share(" + e + ", true)", x -> x.share(e, true), unknown);
            refused("rests(" + e + ", 1, 0, 0)", x -> x.rests(e, 1, 0, 0), unknown);
            refused("rests(1, " + e + ", 0, 0)", x -> x.rests(1, e, 0, 0), unknown);
        }
    }

    private static void bad() {
        int bad = OwedFurrows.BAD;
        for (int n : NO_NUMBER) {
            refused("write(" + n + " and 256)", x -> x.write(n | 256), bad);
            refused("about(" + n + ")", x -> x.about(n), bad);
            refused("field(0, " + n + ")", x -> x.field(0, n), bad);
            refused("eater(0, " + n + ")", x -> x.eater(0, n), bad);
            refused("ahead(0, " + n + ")", x -> x.ahead(0, n), bad);
            refused("judge(" + n + ", 0)", x -> x.judge(n, 0), bad);
            refused("came(" + n + ", 0)", x -> x.came(n, 0), bad);
            refused("came(0, " + n + ")", x -> x.came(0, n), bad);
            refused("strangers(" + n + ")", x -> x.strangers(n), bad);
            refused("rests(0, 1, 0, " + n + ")", x -> x.rests(0, 1, 0, n), bad);
            refused("home(0, " + n + ", false)", x -> x.home(0, n, false), bad);
            refused("years(" + n + ")", x -> x.years(n), bad);
        }
        refused("cake(0, 1, 1)", x -> x.cake(0, 1, 1), bad);
        refused("rests(1, 1, 0, 0)", x -> x.rests(1, 1, 0, 0), bad);
        refused("judge(4, -1)", x -> x.judge(4, -1), bad);
    }

    private static void late() {
        int late = OwedFurrows.LATE;
        refused("country()", x -> x.country(), late);
        refused("eat(0, 0)", x -> x.eat(0, 0), late);
        refused("eat(1, 1)", x -> x.eat(1, 1), late);
        refused("cake(2, 0, 1)", x -> x.cake(2, 0, 1), late);
        refused("cake(2, 1, 0)", x -> x.cake(2, 1, 0), late);
    }

    private static OwedFurrows young() {
        OwedFurrows x = Check.of("FG232G551E290E593E081");
        x.came(3, 1);
        x.seed(12);
        return x;
    }

    private static OwedFurrows youngWithOneKept() {
        OwedFurrows x = young();
        x.eat(0, 0);
        x.keep(0);
        return x;
    }

    private static void lateWithoutActsOrSlots() {
        int late = OwedFurrows.LATE;
        CHECK.changesNothing("undo()", RefusalsTest::young, x -> x.undo(), late);
        CHECK.changesNothing("again(0)", RefusalsTest::young, x -> x.again(0), late);
        CHECK.changesNothing("again(1)", RefusalsTest::youngWithOneKept, x -> x.again(1), late);
    }

    private static void full() {
        refused("write(70)", x -> x.write(70), OwedFurrows.FULL);
        refused("came(4, 0)", x -> x.came(4, 0), OwedFurrows.FULL);
    }
}
