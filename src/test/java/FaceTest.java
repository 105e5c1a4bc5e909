import java.io.IOException;
import java.lang.reflect.Constructor;
import java.lang.reflect.Field;
import java.lang.reflect.Method;
import java.lang.reflect.Modifier;
import java.nio.file.Files;
import java.nio.file.Path;
import java.util.Arrays;
import java.util.List;
import java.util.Set;
import java.util.TreeSet;
import java.util.regex.Matcher;
import java.util.regex.Pattern;

/** The public face, and those rules of LANGUAGE.md that can be seen from words and members. */
public final class FaceTest {
    private static final Check CHECK = new Check();

    private static final List<String> FACE = List.of(
            "int write(int)", "int wipe()", "int fault()", "int country()", "int about(int)",
            "int field(int,int)", "int eater(int,int)", "int owes(int,int)", "int eat(int,int)",
            "int cake(int,int,int)", "int march()", "int harvest()", "int undo()",
            "int ahead(int,int)", "int wants(int)", "int rid(int)", "int judge(int,long)",
            "int share(int,boolean)", "int came(int,int)", "int forget()", "int strangers(int)",
            "int rests(int,int,int,int)", "int home(int,int,boolean)", "long seed(long)",
            "int years(int)", "int keep(int)", "int again(int)");

    private static final List<String> FORBIDDEN = List.of(
            "\\bthrow\\b", "\\btry\\b", "\\bcatch\\b", "\\bsynchronized\\b", "\\bassert\\b",
            "->", "::", "\\bimport\\b", "\\bpackage\\b", "\\bstatic\\s*\\{", "Exact\\b",
            "\\bprotected\\b", "\\bRandom\\b", "\\bThread\\b", "currentTime", "nanoTime");

    private static final Set<String> LIBRARY = Set.of("Integer.bitCount", "Math.min", "Math.abs",
            "System.arraycopy");
    private static final int LONGEST_METHOD = 60;

    public static void main(String[] args) throws IOException, ReflectiveOperationException {
        methods();
        members();
        constants();
        classesInside();
        source();
        signsOfFractions();
        CHECK.end();
    }

    private static String signOf(Method method) {
        StringBuilder sign = new StringBuilder(method.getReturnType() + " " + method.getName());
        sign.append('(');
        for (Class<?> type : method.getParameterTypes()) {
            sign.append(sign.charAt(sign.length() - 1) == '(' ? "" : ",").append(type);
        }
        return sign.append(')').toString();
    }

    private static void methods() {
        Set<String> open = new TreeSet<>();
        Set<String> names = new TreeSet<>();
        for (Method method : OwedFurrows.class.getDeclaredMethods()) {
            if (!Modifier.isPrivate(method.getModifiers())) {
                open.add(signOf(method));
                names.add(method.getName());
                CHECK.due(method + " is public alone", method.getModifiers(), Modifier.PUBLIC);
            }
        }
        CHECK.due("the public methods", open, new TreeSet<>(FACE));
        for (Method method : OwedFurrows.class.getDeclaredMethods()) {
            if (Modifier.isPrivate(method.getModifiers())) {
                CHECK.due(method + " has a public name", names.contains(method.getName()), false);
            }
        }
    }

    private static void members() {
        Constructor<?>[] constructors = OwedFurrows.class.getDeclaredConstructors();
        CHECK.due("constructors", constructors.length, 1);
        CHECK.due("the constructor is public", constructors[0].getModifiers(), Modifier.PUBLIC);
        CHECK.due("its parameters", constructors[0].getParameterCount(), 0);
        CHECK.due("the class", OwedFurrows.class.getModifiers(),
                Modifier.PUBLIC | Modifier.FINAL);
        Set<String> open = new TreeSet<>();
        for (Field field : OwedFurrows.class.getDeclaredFields()) {
            if (!Modifier.isPrivate(field.getModifiers())) {
                open.add(field.getName());
            }
        }
        CHECK.due("the public constants", open,
                new TreeSet<>(List.of("UNKNOWN", "BAD", "LATE", "FULL", "NONE")));
    }

    private static void constants() {
        CHECK.due("UNKNOWN", OwedFurrows.UNKNOWN, -1);
        CHECK.due("BAD", OwedFurrows.BAD, -2);
        CHECK.due("LATE", OwedFurrows.LATE, -3);
        CHECK.due("FULL", OwedFurrows.FULL, -4);
        CHECK.due("NONE", OwedFurrows.NONE, -9);
    }

    private static void classesInside() {
        Class<?>[] inside = OwedFurrows.class.getDeclaredClasses();
        CHECK.due("at most eleven classes inside", inside.length <= 11, true);
        for (Class<?> one : inside) {
            CHECK.due(one + " is static", Modifier.isStatic(one.getModifiers()), true);
            CHECK.due(one + " is not public", Modifier.isPublic(one.getModifiers()), false);
        }
        for (Class<?> one : withOuter(inside)) {
            for (Field field : one.getDeclaredFields()) {
                int modifiers = field.getModifiers();
                boolean isLoose = Modifier.isStatic(modifiers) && !Modifier.isFinal(modifiers);
                CHECK.due(field + " is static and not final", isLoose, false);
            }
            for (Method method : one.getDeclaredMethods()) {
                CHECK.due(method + " takes seven at most", method.getParameterCount() <= 7, true);
            }
        }
    }

    private static Class<?>[] withOuter(Class<?>[] inside) {
        Class<?>[] all = Arrays.copyOf(inside, inside.length + 1);
        all[inside.length] = OwedFurrows.class;
        return all;
    }

    private static void source() throws IOException {
        String source = Files.readString(Path.of("src/main/java/OwedFurrows.java"));
        String code = source.replaceAll("(?s)/\\*.*?\\*/", "").replaceAll("//[^\n]*", "");
        for (String word : FORBIDDEN) {
            CHECK.due("the source has " + word, Pattern.compile(word).matcher(code).find(), false);
        }
        boolean plain = source.chars().allMatch(sign -> sign == '\n' || sign >= 32 && sign < 127);
        CHECK.due("the source has plain signs alone", plain, true);
        library(code);
        lengths(code);
    }

    /** Rule 4: a name with a capital ahead of a point is one of the library's, or of our own. */
    private static void library(String code) {
        Matcher call = Pattern.compile("\\b[A-Z][a-z]\\w*\\.\\w+").matcher(code);
        while (call.find()) {
            CHECK.due(call.group() + " is a word of the library", LIBRARY.contains(call.group()),
                    true);
        }
    }

    /** Rule 11: by the blanks ahead of it, the line at which a method ends. */
    private static void lengths(String code) {
        Matcher method = Pattern.compile("(?ms)^( {4}| {8})(?! )[^\n;=]*\\) \\{\n.*?^\\1\\}$")
                .matcher(code);
        int found = 0;
        while (method.find()) {
            found++;
            long lines = method.group().lines().count();
            CHECK.due(method.group().lines().findFirst().orElse("").strip() + " is short enough",
                    lines <= LONGEST_METHOD, true);
        }
        CHECK.due("methods are found in the source", found > FACE.size(), true);
    }

    /** No call can bring a fraction below 0, so this asks what all of them would tell it by. */
    private static void signsOfFractions() throws ReflectiveOperationException {
        Method part = OwedFurrows.class.getDeclaredMethod("partOfFraction", long.class, long.class,
                boolean.class);
        part.setAccessible(true);
        long[][] fractions = {{-2, 4, -1, 2}, {-1, 2, -1, 2}, {-6, 3, -2, 1}, {-6, 4, -3, 2},
            {0, 120, 0, 1}, {2, 4, 1, 2}, {6, 3, 2, 1}};
        for (long[] row : fractions) {
            String name = row[0] + "/" + row[1];
            CHECK.due("above in " + name, (int) part.invoke(null, row[0], row[1], true), row[2]);
            CHECK.due("below in " + name, (int) part.invoke(null, row[0], row[1], false), row[3]);
        }
    }
}
