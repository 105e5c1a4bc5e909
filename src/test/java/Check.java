import java.util.ArrayList;
import java.util.List;
import java.util.function.Supplier;

/** What every test of the project uses: countries from texts, and answers held against those due. */
final class Check {
    private int wrong = 0;
    private int asked = 0;
    private String words = "";

    /** The words of the document that the answers behind this are held against. */
    void sentence(String ofTheDocument) {
        words = "[" + ofTheDocument + "] ";
    }

    void due(String call, long got, long want) {
        asked++;
        if (got != want) {
            wrong++;
            System.out.println(words + call + " answered " + got + ", due is " + want);
        }
    }

    void due(String what, Object got, Object want) {
        asked++;
        if (!got.equals(want)) {
            wrong++;
            System.out.println(words + what + " was " + got + ", due is " + want);
        }
    }

    /** A call of which the words are told when its answer is wrong. */
    interface Call {
        long on(OwedFurrows x);
    }

    /** The call answers what is due, and leaves its object in all things like a twin without it. */
    void changesNothing(String name, Supplier<OwedFurrows> lived, Call call, long want) {
        OwedFurrows x = lived.get();
        due(name, call.on(x), want);
        due("all behind " + name, wholeOf(x), wholeOf(lived.get()));
    }

    /** Ends the test: exit code 1 if an answer was not the one that is due. */
    void end() {
        System.out.println(asked + " answers, " + wrong + " not as due");
        if (wrong != 0 || asked == 0) {
            System.exit(1);
        }
    }

    static void writeAll(OwedFurrows x, String text) {
        for (int i = 0; i < text.length(); i++) {
            x.write(text.charAt(i));
        }
    }

    static int faultOf(String text) {
        OwedFurrows x = new OwedFurrows();
        writeAll(x, text);
        return x.fault();
    }

    static OwedFurrows of(String text) {
        OwedFurrows x = new OwedFurrows();
        writeAll(x, text);
        if (x.country() < 0) {
            throw new IllegalStateException("no country: " + text);
        }
        return x;
    }

    /** What acts change, and how much of all else there is. */
    static List<Long> standOf(OwedFurrows x) {
        List<Long> stand = new ArrayList<>();
        for (int what = 0; what <= 10; what++) {
            stand.add((long) x.about(what));
        }
        for (int field = 0; field < x.about(0); field++) {
            stand.add((long) x.field(field, 3));
            stand.add((long) x.field(field, 4));
            for (int eater = 0; eater < x.about(1); eater++) {
                stand.add((long) x.owes(eater, field));
            }
        }
        return stand;
    }

    /** All that an object holds, down to each act, both slots and the text: it is used up by this. */
    static List<Long> wholeOf(OwedFurrows x) {
        List<Long> whole = new ArrayList<>(standOf(x));
        whole.add(x.seed(0));
        whole.add((long) x.strangers(0));
        whole.add((long) x.strangers(1));
        for (int acts = x.about(8); acts >= 0; acts--) {
            whole.add((long) x.undo());
            whole.addAll(standOf(x));
        }
        for (int slot = 0; slot < 2; slot++) {
            whole.add((long) x.again(slot));
            whole.addAll(standOf(x));
        }
        whole.add((long) x.fault());
        whole.add((long) x.country());
        whole.addAll(standOf(x));
        return whole;
    }

    /** Everything that can be read without a change: two equal lists mean that nothing changed. */
    static List<Long> allOf(OwedFurrows x) {
        List<Long> all = new ArrayList<>();
        for (int what = 0; what <= 10; what++) {
            all.add((long) x.about(what));
        }
        for (int field = 0; field < 4; field++) {
            for (int what = 0; what <= 5; what++) {
                all.add((long) x.field(field, what));
            }
        }
        for (int eater = 0; eater < 5; eater++) {
            for (int what = 0; what <= 5; what++) {
                all.add((long) x.eater(eater, what));
            }
            for (int field = 0; field < 4; field++) {
                all.add((long) x.owes(eater, field));
            }
        }
        all.add((long) x.fault());
        all.add((long) x.strangers(0));
        all.add((long) x.strangers(1));
        long seed = x.seed(0);
        all.add(seed);
        x.seed(seed);
        return all;
    }
}
