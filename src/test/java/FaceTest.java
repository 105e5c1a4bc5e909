import java.io.IOException;
import java.lang.reflect.Constructor;
import java.lang.reflect.Field;
import java.lang.reflect.Method;
import java.lang.reflect.Modifier;
import java.nio.file.Files;
import java.nio.file.Path;
import java.util.Arrays;
import java.util.List;
import java.util.Set;
import java.util.TreeSet;
import java.util.regex.Pattern;

/** The public face, and those rules of LANGUAGE.md that can be seen from words and members. */
public final class FaceTest {
    private static final Check CHECK = new Check();

    private static final List<String> FACE = List.of(
            "int write(int)", "int wipe()", "int fault()", "int country()", "int about(int)",
            "int field(int,int)", "int eater(int,int)", "int owes(int,int)", "int eat(int,int)",
            "int cake(int,int,int)", "int march()", "int harvest()", "int undo()",
            "int ahead(int,int)", "int wants(int)", "int rid(int)", "int judge(int,long)",
            "int share(int,boolean)", "int came(int,int)", "int forget()", "int strangers(int)",
            "int rests(int,int,int,int)", "int home(int,int,boolean)", "long seed(long)",
            "int years(int)", "int keep(int)", "int again(int)");

    private static final List<String> FORBIDDEN = List.of(
            "\\bthrow\\b", "\\btry\\b", "\\bcatch\\b", "\\bsynchronized\\b", "\\bassert\\b",
            "->", "::", "\\bimport\\b", "\\bpackage\\b", "\\bstatic\\s*\\{", "Exact\\b",
            "\\bprotected\\b", "\\bRandom\\b", "\\bThread\\b", "currentTime", "nanoTime");

    public static void main(String[] args) throws IOException {
        methods();
        members();
        constants();
        classesInside();
        source();
        CHECK.end();
    }

    private static String signOf(Method method) {
        StringBuilder sign = new StringBuilder(method.getReturnType() + " " + method.getName());
        sign.append('(');
        for (Class<?> type : method.getParameterTypes()) {
            sign.append(sign.charAt(sign.length() - 1) == '(' ? "" : ",").append(type);
        }
        return sign.append(')').toString();
    }

    private static void methods() {
        Set<String> open = new TreeSet<>();
        Set<String> names = new TreeSet<>();
        for (Method method : OwedFurrows.class.getDeclaredMethods()) {
            if (!Modifier.isPrivate(method.getModifiers())) {
                open.add(signOf(method));
                names.add(method.getName());
                CHECK.due(method + " is public alone", method.getModifiers(), Modifier.PUBLIC);
            }
        }
        CHECK.due("the public methods", open, new TreeSet<>(FACE));
        for (Method method : OwedFurrows.class.getDeclaredMethods()) {
            if (Modifier.isPrivate(method.getModifiers())) {
                CHECK.due(method + " has a public name", names.contains(method.getName()), false);
            }
        }
    }

    private static void members() {
        Constructor<?>[] constructors = OwedFurrows.class.getDeclaredConstructors();
        CHECK.due("constructors", constructors.length, 1);
        CHECK.due("the constructor is public", constructors[0].getModifiers(), Modifier.PUBLIC);
        CHECK.due("its parameters", constructors[0].getParameterCount(), 0);
        CHECK.due("the class", OwedFurrows.class.getModifiers(),
                Modifier.PUBLIC | Modifier.FINAL);
        Set<String> open = new TreeSet<>();
        for (Field field : OwedFurrows.class.getDeclaredFields()) {
            if (!Modifier.isPrivate(field.getModifiers())) {
                open.add(field.getName());
            }
        }
        CHECK.due("the public constants", open,
                new TreeSet<>(List.of("UNKNOWN", "BAD", "LATE", "FULL", "NONE")));
    }

    private static void constants() {
        CHECK.due("UNKNOWN", OwedFurrows.UNKNOWN, -1);
        CHECK.due("BAD", OwedFurrows.BAD, -2);
        CHECK.due("LATE", OwedFurrows.LATE, -3);
        CHECK.due("FULL", OwedFurrows.FULL, -4);
        CHECK.due("NONE", OwedFurrows.NONE, -9);
    }

    private static void classesInside() {
        Class<?>[] inside = OwedFurrows.class.getDeclaredClasses();
        CHECK.due("at most eleven classes inside", inside.length <= 11, true);
        for (Class<?> one : inside) {
            CHECK.due(one + " is static", Modifier.isStatic(one.getModifiers()), true);
            CHECK.due(one + " is not public", Modifier.isPublic(one.getModifiers()), false);
        }
        for (Class<?> one : withOuter(inside)) {
            for (Field field : one.getDeclaredFields()) {
                int modifiers = field.getModifiers();
                boolean isLoose = Modifier.isStatic(modifiers) && !Modifier.isFinal(modifiers);
                CHECK.due(field + " is static and not final", isLoose, false);
            }
            for (Method method : one.getDeclaredMethods()) {
                CHECK.due(method + " takes seven at most", method.getParameterCount() <= 7, true);
            }
        }
    }

    private static Class<?>[] withOuter(Class<?>[] inside) {
        Class<?>[] all = Arrays.copyOf(inside, inside.length + 1);
        all[inside.length] = OwedFurrows.class;
        return all;
    }

    private static void source() throws IOException {
        String source = Files.readString(Path.of("src/main/java/OwedFurrows.java"));
        String code = source.replaceAll("(?s)/\\*.*?\\*/", "").replaceAll("//[^\n]*", "");
        for (String word : FORBIDDEN) {
            CHECK.due("the source has " + word, Pattern.compile(word).matcher(code).find(), false);
        }
        boolean plain = source.chars().allMatch(sign -> sign == '\n' || sign >= 32 && sign < 127);
        CHECK.due("the source has plain signs alone", plain, true);
    }
}
