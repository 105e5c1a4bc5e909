import java.util.ArrayList;
import java.util.List;

/** What every test of the project uses: countries from texts, and answers held against those due. */
final class Check {
    private int wrong = 0;
    private int asked = 0;

    void due(String call, long got, long want) {
        asked++;
        if (got != want) {
            wrong++;
            System.out.println(call + " answered " + got + ", due is " + want);
        }
    }

    void due(String what, Object got, Object want) {
        asked++;
        if (!got.equals(want)) {
            wrong++;
            System.out.println(what + " was " + got + ", due is " + want);
        }
    }

    /** Ends the test: exit code 1 if an answer was not the one that is due. */
    void end() {
        System.out.println(asked + " answers, " + wrong + " not as due");
        if (wrong != 0 || asked == 0) {
            System.exit(1);
        }
    }

    static void writeAll(OwedFurrows x, String text) {
        for (int i = 0; i < text.length(); i++) {
            x.write(text.charAt(i));
        }
    }

    static int faultOf(String text) {
        OwedFurrows x = new OwedFurrows();
        writeAll(x, text);
        return x.fault();
    }

    static OwedFurrows of(String text) {
        OwedFurrows x = new OwedFurrows();
        writeAll(x, text);
        if (x.country() < 0) {
            throw new IllegalStateException("no country: " + text);
        }
        return x;
    }

    /** Everything that can be read without a change: two equal lists mean that nothing changed. */
    static List<Long> allOf(OwedFurrows x) {
        List<Long> all = new ArrayList<>();
        for (int what = 0; what <= 10; what++) {
            all.add((long) x.about(what));
        }
        for (int field = 0; field < 4; field++) {
            for (int what = 0; what <= 5; what++) {
                all.add((long) x.field(field, what));
            }
        }
        for (int eater = 0; eater < 5; eater++) {
            for (int what = 0; what <= 5; what++) {
                all.add((long) x.eater(eater, what));
            }
            for (int field = 0; field < 4; field++) {
                all.add((long) x.owes(eater, field));
            }
        }
        all.add((long) x.fault());
        all.add((long) x.strangers(0));
        all.add((long) x.strangers(1));
        long seed = x.seed(0);
        all.add(seed);
        x.seed(seed);
        return all;
    }
}
