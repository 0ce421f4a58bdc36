import java.io.IOException;
import java.lang.management.ManagementFactory;
import java.lang.reflect.Constructor;
import java.lang.reflect.Field;
import java.lang.reflect.Method;
import java.lang.reflect.Modifier;
import java.nio.file.Files;
import java.nio.file.Path;
import java.util.Arrays;
import java.util.HashSet;
import java.util.List;
import java.util.Set;
import java.util.TreeSet;
import java.util.regex.Matcher;
import java.util.regex.Pattern;

/** The rules of LANGUAGE.md that a program can look at: the face, what the source has, what calls make. */
public final class LanguageTest {
    private static final Path SOURCE = Path.of("src/main/java/TropicRanks.java");
    private static final List<String> METHODS = List.of(
            "load int", "set int int int int", "raise int boolean int int", "exchange int boolean int int",
            "drop int boolean int", "turn int", "product int int int", "close int", "entry int int int",
            "permanent int int int int", "byParts int int", "canTouch int int", "byCovers int int", "cover int int",
            "cone int int int int", "factor int int int", "byCone int boolean int", "arrayOf int int", "ring int int",
            "count int", "ifSet int int int int int", "bestZero int", "put long", "wipe", "fault", "undo", "save int",
            "restore int");
    private static final List<String> CONSTANTS = List.of(
            "NO_SUCH", "BAD_VALUE", "BAD_TEXT", "TOO_MANY", "NOT_POSSIBLE", "NONE");
    private static final List<String> FORBIDDEN = List.of(
            "throw", "throws", "try", "catch", "synchronized", "assert", "import", "package", "->", "::", "native",
            "volatile", "Object", "hashCode", "equals", "toString", "record", "double", "float", "static \\{");
    private static final Set<String> LIBRARY = Set.of("Math.min", "Math.max", "Integer.bitCount", "Long.bitCount",
            "System.arraycopy");
    private static int wrong = 0;

    public static void main(String[] args) throws IOException, ReflectiveOperationException {
        face();
        namesOfPrivateMethods();
        source();
        callsMakeNothing();
        objectsAreSmall();
        noCallThrows();
        System.out.println(wrong == 0 ? "the rules are kept" : wrong + " rules are not kept");
        if (wrong != 0) {
            System.exit(1);
        }
    }

    private static void due(String what, boolean isSo) {
        if (!isSo) {
            wrong++;
            System.out.println("not so: " + what);
        }
    }

    private static String signature(Method method) {
        StringBuilder text = new StringBuilder(method.getName());
        for (Class<?> type : method.getParameterTypes()) {
            text.append(' ').append(type);
        }
        return text.toString();
    }

    private static void face() {
        Class<?> type = TropicRanks.class;
        due("public and final", Modifier.isPublic(type.getModifiers()) && Modifier.isFinal(type.getModifiers()));
        Set<String> open = new TreeSet<>();
        for (Method method : type.getDeclaredMethods()) {
            if (!Modifier.isPrivate(method.getModifiers()) && !method.isSynthetic()) {
                open.add(signature(method));
                due(method + " is public, and gives an int", Modifier.isPublic(method.getModifiers())
                        && !Modifier.isStatic(method.getModifiers()) && method.getReturnType() == int.class);
            }
        }
        due("the methods are " + open, open.equals(new TreeSet<>(METHODS)));
        Set<String> constants = new TreeSet<>();
        for (Field field : type.getDeclaredFields()) {
            due(field + " is final where it is static", !Modifier.isStatic(field.getModifiers())
                    || Modifier.isFinal(field.getModifiers()));
            if (!Modifier.isPrivate(field.getModifiers()) && !field.isSynthetic()) {
                constants.add(field.getName());
                due(field + " is a public constant, an int", Modifier.isPublic(field.getModifiers())
                        && Modifier.isStatic(field.getModifiers()) && field.getType() == int.class);
            }
        }
        due("the constants are " + constants, constants.equals(new TreeSet<>(CONSTANTS)));
        Constructor<?>[] constructors = type.getDeclaredConstructors();
        due("one public constructor", constructors.length == 1 && Modifier.isPublic(constructors[0].getModifiers())
                && constructors[0].getParameterCount() == 0);
    }

    private static void namesOfPrivateMethods() {
        Set<String> taken = new HashSet<>();
        METHODS.forEach(method -> taken.add(method.split(" ")[0]));
        Class<?>[] inside = TropicRanks.class.getDeclaredClasses();
        due("at most twelve classes", inside.length + 1 <= 12);
        for (Class<?> type : inside) {
            due(type + " is static, and not public", Modifier.isStatic(type.getModifiers())
                    && !Modifier.isPublic(type.getModifiers()) && !Modifier.isProtected(type.getModifiers()));
            for (Method method : type.getDeclaredMethods()) {
                due(method + " has a name of its own", !taken.contains(method.getName()));
            }
        }
        for (Method method : TropicRanks.class.getDeclaredMethods()) {
            due(method + " has a name of its own",
                    !Modifier.isPrivate(method.getModifiers()) || !taken.contains(method.getName()));
        }
    }

    private static void source() throws IOException {
        String code = Files.readString(SOURCE).replaceAll("(?s)/\\*.*?\\*/", "").replaceAll("//[^\n]*", "");
        for (String word : FORBIDDEN) {
            String pattern = Character.isLetter(word.charAt(0)) ? "\\b" + word + (word.endsWith("{") ? "" : "\\b") : word;
            due("no " + word, !Pattern.compile(pattern).matcher(code).find());
        }
        Matcher calls = Pattern.compile("\\b(Math|Integer|Long|System|Arrays|String|Character)\\.\\w+").matcher(code);
        while (calls.find()) {
            due(calls.group() + " is in the library that is used", LIBRARY.contains(calls.group()));
        }
        due("no text", code.indexOf('"') < 0);
    }

    private static long made() {
        com.sun.management.ThreadMXBean threads = (com.sun.management.ThreadMXBean) ManagementFactory.getThreadMXBean();
        return threads.getThreadAllocatedBytes(Thread.currentThread().getId());
    }

    /** All calls of one run live in one room, so that a call had better make nothing in it. */
    private static void callsMakeNothing() {
        TropicRanks x = new TropicRanks();
        callAll(x);
        made();
        long before = made();
        for (int round = 0; round < 50; round++) {
            callAll(x);
        }
        long bytes = made() - before;
        due("no objects are made, but " + bytes + " bytes were", bytes < 2000);
    }

    private static void objectsAreSmall() {
        TropicRanks[] all = new TropicRanks[100];
        Arrays.setAll(all, i -> new TropicRanks());
        long before = made();
        for (int i = 0; i < all.length; i++) {
            all[i] = new TropicRanks();
        }
        long bytes = (made() - before) / all.length;
        due("an object is small, but has " + bytes + " bytes", bytes < 10_000);
    }

    /** Each call with all mixes of arguments from a list with edges; an exception ends the test. */
    private static void noCallThrows() throws ReflectiveOperationException {
        int[] values = {Integer.MIN_VALUE, -1, 0, 1, 2, 3, 4, 7, 4096, Integer.MAX_VALUE};
        long[] texts = {Long.MIN_VALUE, -1, 0, 0x2C, 0x31, 0x32, 0x3B, 0x313B31, 0x312C31, Long.MAX_VALUE};
        TropicRanks x = new TropicRanks();
        for (Method method : TropicRanks.class.getMethods()) {
            if (method.getDeclaringClass() != TropicRanks.class) {
                continue;
            }
            int mixes = (int) Math.pow(values.length, method.getParameterCount());
            for (int mix = 0; mix < mixes; mix++) {
                int answer = (Integer) method.invoke(x, Sheet.argumentsOf(method, mix, values, texts));
                due(method + " answers " + answer, answer >= TropicRanks.NONE);
            }
        }
    }

    private static void callAll(TropicRanks x) {
        x.wipe();
        x.put(0x302C302C313B302CL);
        x.put(0x312C303B312C302CL);
        x.put(0x30L);
        x.fault();
        x.load(0);
        x.set(0, 1, 1, 5);
        x.raise(0, true, 1, 1);
        x.exchange(0, false, 0, 2);
        x.close(0);
        x.product(0, 0, 1);
        x.turn(1);
        x.drop(1, true, 1);
        x.entry(0, 0, 0);
        x.cone(0, 0, 6, 1);
        x.factor(0, 0, 1);
        x.bestZero(0);
        x.canTouch(0, 100);
        x.cover(0, 8);
        x.permanent(0, 7, 7, 2);
        for (int what = 0; what < 5; what++) {
            x.byParts(0, what);
            x.byCovers(0, what);
            x.byCone(0, true, what);
            x.arrayOf(0, what);
            x.ring(0, what);
            x.count(what);
            x.ifSet(0, 0, 0, 7, what);
        }
        x.undo();
        x.save(0);
        x.restore(0);
    }
}
