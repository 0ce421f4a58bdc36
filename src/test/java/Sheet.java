import java.lang.reflect.InvocationTargetException;
import java.lang.reflect.Method;
import java.util.Arrays;
import java.util.Comparator;
import java.util.function.Supplier;
import java.util.function.ToIntFunction;

/**
 * What the tests share: answers that are due, objects to ask, and whether a call changed
 * something.
 *
 * The codes are written out again here, so that a wrong constant of the class is found.
 */
abstract class Sheet {
    static final int NO_SUCH = -1;
    static final int BAD_VALUE = -2;
    static final int BAD_TEXT = -3;
    static final int TOO_MANY = -4;
    static final int NOT_POSSIBLE = -5;
    static final int NONE = -6;
    static final int LOWEST = Integer.MIN_VALUE;
    static final int HIGHEST = Integer.MAX_VALUE;

    /** What is no array, and no row, column, slot or place of anything either, but for 3. */
    static final int[] NO_ARRAYS = {-1, 3, 4, 256, LOWEST, LOWEST + 1, HIGHEST};

    private static final int MOST_SHOWN = 60;

    private static int wrong = 0;
    private static int asked = 0;
    private static String sentence = "";

    /** Runs each method of a test that stands for a sentence, and ends with exit code 1 if an answer is not due. */
    static void runSentences(Class<?> test) throws IllegalAccessException {
        Method[] methods = test.getDeclaredMethods();
        Arrays.sort(methods, Comparator.comparing(Method::getName));
        int sentences = 0;
        for (Method method : methods) {
            if (method.isAnnotationPresent(Sentence.class)) {
                sentences++;
                sentence = method.getName() + ", \"" + method.getAnnotation(Sentence.class).value() + "\": ";
                int before = asked;
                try {
                    method.invoke(null);
                } catch (InvocationTargetException thrown) {
                    wrong++;
                    System.out.println(sentence + "threw " + thrown.getCause());
                }
                if (asked == before) {
                    wrong++;
                    System.out.println(sentence + "asked for nothing");
                }
            }
        }
        System.out.println(sentences + " sentences");
        end();
    }

    static void end() {
        System.out.println(asked + " answers looked at, " + wrong + " not as due");
        if (wrong != 0) {
            System.exit(1);
        }
    }

    static void due(String call, long got, long want) {
        asked++;
        if (got != want) {
            wrong++;
            if (wrong <= MOST_SHOWN) {
                System.out.println(sentence + call + " answered " + got + ", due is " + want);
            }
        }
    }

    // ---- texts and arrays

    static long packed(String characters) {
        long packed = 0;
        for (char character : characters.toCharArray()) {
            packed = packed << 8 | character;
        }
        return packed;
    }

    static void write(TropicRanks x, String text) {
        int length = x.count(1);
        for (int from = 0; from < text.length(); from += 8) {
            String some = text.substring(from, Math.min(from + 8, text.length()));
            length += some.length();
            due("put " + some, x.put(packed(some)), length);
        }
    }

    static int entriesIn(String text) {
        return text.split("[,;]").length;
    }

    /** An object with these arrays, from 0 on; each of them is a change. */
    static TropicRanks with(String... texts) {
        TropicRanks x = new TropicRanks();
        for (int array = 0; array < texts.length; array++) {
            write(x, texts[array]);
            due("load " + texts[array], x.load(array), entriesIn(texts[array]));
        }
        return x;
    }

    static Supplier<TropicRanks> having(String... texts) {
        return () -> with(texts);
    }

    /** All of an array, its form too. */
    static void dueArray(TropicRanks x, int array, String text) {
        String[] rows = text.split(";");
        due("rows of " + text, x.arrayOf(array, 0), rows.length);
        due("columns of " + text, x.arrayOf(array, 1), rows[0].split(",").length);
        for (int row = 0; row < rows.length; row++) {
            String[] entries = rows[row].split(",");
            for (int column = 0; column < entries.length; column++) {
                due("entry " + row + ", " + column + " of " + text, x.entry(array, row, column),
                        Integer.parseInt(entries[column]));
            }
        }
    }

    static void dueArrays(TropicRanks x, String... texts) {
        for (int array = 0; array < texts.length; array++) {
            dueArray(x, array, texts[array]);
        }
    }

    // ---- objects to ask

    static final String[] BUSY = {"6,2;3,4", "5,0,7", "9,1,9;9,9,1;1,9,9"};

    /** An object with something everywhere: unlike arrays, four changes, both slots, a text in the pad. */
    static TropicRanks busy() {
        TropicRanks x = new TropicRanks();
        write(x, "1,2;3,4");
        x.load(0);
        x.save(0);
        write(x, BUSY[1]);
        x.load(1);
        x.save(1);
        write(x, BUSY[2]);
        x.load(2);
        x.set(0, 0, 0, 6);
        write(x, "8;8");
        return x;
    }

    static final String[] FULL = {"0,1,4,9;1,0,1,4;4,1,0,1", "5,6,0;5,6,9;5,6,0;5,6,1", "7"};

    /** An object with as much as it can hold: 12 entries, 6 states, 80 characters, both slots. */
    static TropicRanks full() {
        TropicRanks x = with(FULL[0], "5,6,0;5,6,9;5,6,0;5,6,0");
        x.save(0);
        x.set(2, 0, 0, 1);
        x.set(2, 0, 0, 2);
        x.set(2, 0, 0, 7);
        x.save(1);
        x.set(1, 3, 2, 1);
        write(x, "1,".repeat(39) + "12");
        due("full: changes", x.count(2), 6);
        due("full: pad", x.count(1), 80);
        return x;
    }

    // ---- arguments

    /** One mix, of as many as there are numbers to the power of the types, of arguments of a method. */
    static Object[] argumentsOf(Method method, int mix, int[] numbers, long[] characters) {
        Class<?>[] types = method.getParameterTypes();
        Object[] arguments = new Object[types.length];
        int rest = mix;
        for (int argument = 0; argument < types.length; argument++) {
            int pick = rest % numbers.length;
            rest /= numbers.length;
            if (types[argument] == boolean.class) {
                arguments[argument] = pick % 2 == 0;
            } else if (types[argument] == long.class) {
                arguments[argument] = characters[pick];
            } else {
                arguments[argument] = numbers[pick];
            }
        }
        return arguments;
    }

    // ---- what a call changes

    /** A call answers so, and changes nothing: neither an array nor the pad, the history or a slot. */
    static void stays(Supplier<TropicRanks> made, String call, ToIntFunction<TropicRanks> asking, int want) {
        TropicRanks x = made.get();
        due(call, asking.applyAsInt(x), want);
        dueAlike("after " + call, x, made.get());
    }

    /** A call answers so and is a change: undo, and only undo, makes everything as it was. */
    static TropicRanks changes(Supplier<TropicRanks> made, String call, ToIntFunction<TropicRanks> asking, int want) {
        TropicRanks x = made.get();
        TropicRanks twin = made.get();
        due(call, asking.applyAsInt(x), want);
        due("changes after " + call, x.count(2), twin.count(2) + 1);
        due("pad after " + call, x.count(1), twin.count(1));
        due("undo of " + call, x.undo(), twin.count(2));
        dueAlike("undone " + call, x, twin);
        TropicRanks changed = made.get();
        asking.applyAsInt(changed);
        return changed;
    }

    /** Two objects are alike in all that can be asked for; they are not the same afterwards. */
    static void dueAlike(String when, TropicRanks x, TropicRanks twin) {
        dueAlikeNow(when, x, twin);
        int back = x.count(2);
        for (int state = 0; state < back; state++) {
            due(when + ", undo", x.undo(), twin.undo());
            dueAlikeArrays(when + ", undo " + state, x, twin);
        }
        for (int slot = 0; slot < 2; slot++) {
            due(when + ", restore " + slot, x.restore(slot), twin.restore(slot));
            dueAlikeArrays(when + ", restore " + slot, x, twin);
        }
        due(when + ", load", x.load(0), twin.load(0));
        dueAlikeArrays(when + ", load", x, twin);
        // One more character tells more of a text that could not be loaded.
        due(when + ", put", x.put('1'), twin.put('1'));
        due(when + ", fault", x.fault(), twin.fault());
        due(when + ", load", x.load(0), twin.load(0));
        dueAlikeArrays(when + ", load", x, twin);
    }

    private static void dueAlikeNow(String when, TropicRanks x, TropicRanks twin) {
        dueAlikeArrays(when, x, twin);
        for (int what = 0; what < 3; what++) {
            due(when + ", count " + what, x.count(what), twin.count(what));
        }
        due(when + ", fault", x.fault(), twin.fault());
    }

    static void dueAlikeArrays(String when, TropicRanks x, TropicRanks twin) {
        for (int array = 0; array < 3; array++) {
            int rows = twin.arrayOf(array, 0);
            int columns = twin.arrayOf(array, 1);
            due(when + ", rows of " + array, x.arrayOf(array, 0), rows);
            due(when + ", columns of " + array, x.arrayOf(array, 1), columns);
            for (int row = 0; row < rows; row++) {
                for (int column = 0; column < columns; column++) {
                    due(when + ", entry " + row + ", " + column + " of " + array,
                            x.entry(array, row, column), twin.entry(array, row, column));
                }
            }
        }
    }
}
