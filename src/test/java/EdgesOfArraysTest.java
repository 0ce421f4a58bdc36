import java.lang.reflect.Method;
import java.util.List;
import java.util.Set;
import java.util.TreeSet;
import java.util.function.Supplier;

/**
 * The edges of the terms on arrays, and of the promises 1, 10, 19 and 21: a new object,
 * entry, arrayOf, count.
 */
public final class EdgesOfArraysTest extends Sheet {
    public static void main(String[] args) throws IllegalAccessException {
        runSentences(EdgesOfArraysTest.class);
    }

    // ---- conventions

    @Sentence("NO_SUCH (-1), BAD_VALUE (-2), BAD_TEXT (-3), TOO_MANY (-4), NOT_POSSIBLE (-5), NONE (-6)")
    static void conventionsCodes() {
        due("NO_SUCH", TropicRanks.NO_SUCH, -1);
        due("BAD_VALUE", TropicRanks.BAD_VALUE, -2);
        due("BAD_TEXT", TropicRanks.BAD_TEXT, -3);
        due("TOO_MANY", TropicRanks.TOO_MANY, -4);
        due("NOT_POSSIBLE", TropicRanks.NOT_POSSIBLE, -5);
        due("NONE", TropicRanks.NONE, -6);
    }

    /** For each method the errors that its promise names. */
    private static final String[] ERRORS = {
        "load -1 -2 -3 -4", "set -1 -2", "raise -1 -2 -5", "exchange -1 -2", "drop -1 -5", "turn -1",
        "product -1 -4 -5", "close -1 -5", "entry -1", "permanent -1 -2", "byParts -1 -2", "canTouch -1 -2",
        "byCovers -1 -2", "cover -1", "cone -1 -2", "factor -1 -2", "byCone -1 -2", "arrayOf -1 -2", "ring -1 -2 -5",
        "count -2", "ifSet -1 -2", "bestZero -1", "put -2 -4", "wipe", "fault", "undo -5", "save -2", "restore -2 -5"
    };

    @Sentence("A method that fails returns one of the error codes; it names its errors: it returns these, and no others")
    static void conventionsErrorsOfEachMethod() throws ReflectiveOperationException {
        for (String errors : ERRORS) {
            String[] parts = errors.split(" ");
            Set<Integer> named = new TreeSet<>();
            for (int part = 1; part < parts.length; part++) {
                named.add(Integer.parseInt(parts[part]));
            }
            Set<Integer> seen = answersBelowNothing(methodOf(parts[0]));
            // NONE is no error, and fault alone returns it.
            due(parts[0] + " returns NONE", seen.remove(NONE) ? 1 : 0, parts[0].equals("fault") ? 1 : 0);
            due(errors + ", but it returned " + seen, seen.equals(named) ? 1 : 0, 1);
        }
        due("methods", ERRORS.length, publicMethods().size());
    }

    private static List<Method> publicMethods() {
        return List.of(TropicRanks.class.getMethods()).stream()
                .filter(method -> method.getDeclaringClass() == TropicRanks.class).toList();
    }

    private static Method methodOf(String name) {
        return publicMethods().stream().filter(method -> method.getName().equals(name)).findFirst().orElseThrow();
    }

    /** What a method answers below 0, with all mixes of some arguments, asked of several objects. */
    private static Set<Integer> answersBelowNothing(Method method) throws ReflectiveOperationException {
        int[] numbers = {-1, 0, 1, 3, 1000, LOWEST};
        long[] characters = {-1, 0, '1', '2', 0x3131, ' '};
        List<Supplier<TropicRanks>> made = List.of(TropicRanks::new, Sheet::busy, Sheet::full, having("999"),
                () -> writing("1;1,2"), () -> writing("1;2;3;4;5"), () -> writing("0,1;1,0"));
        Set<Integer> below = new TreeSet<>();
        int mixes = (int) Math.pow(numbers.length, method.getParameterCount());
        for (Supplier<TropicRanks> one : made) {
            for (int mix = 0; mix < mixes; mix++) {
                int answer = (Integer) method.invoke(one.get(), argumentsOf(method, mix, numbers, characters));
                if (answer < 0) {
                    below.add(answer);
                }
            }
        }
        return below;
    }

    private static TropicRanks writing(String text) {
        TropicRanks x = new TropicRanks();
        write(x, text);
        return x;
    }

    @Sentence("Everything is numbered from 0")
    static void conventionsNumbers() {
        TropicRanks x = with("1,2;3,4");
        due("array 0, row 0, column 0", x.entry(0, 0, 0), 1);
        due("row 1", x.entry(0, 1, 0), 3);
        due("column 1", x.entry(0, 0, 1), 2);
        due("place 0 touched", x.canTouch(0, 1), 1);
        due("cover of place 0", x.cover(0, 0), 0);
        due("slot 0", x.save(0), 6);
        due("fault at character 0", x.fault(), 0);
    }

    @Sentence("Sets are bit masks")
    static void conventionsSets() {
        TropicRanks x = with("1,2,3;4,5,6;7,8,9;10,20,30");
        for (int row = 0; row < 4; row++) {
            for (int column = 0; column < 3; column++) {
                due("part of one entry", x.permanent(0, 1 << row, 1 << column, 0), x.entry(0, row, column));
            }
        }
        due("rows 0 and 3, columns 0 and 2", x.permanent(0, 9, 5, 0), 13);
        due("row 3 of the rows 0 to 3", x.cone(0, 0, 2, 1), 8);
    }

    @Sentence("An object is used for at most 512 calls after it has been made")
    static void conventionsLastCall() {
        TropicRanks x = new TropicRanks();
        for (int call = 1; call < 512; call++) {
            due("call " + call, x.set(0, 0, 0, call), call - 1);
        }
        due("call 512", x.set(0, 0, 0, 7), 511);
        TropicRanks y = with("5,6,0;5,6,9;5,6,0;5,6,0");
        for (int call = 6; call <= 512; call++) {
            due("call " + call + ", of the dearest", y.bestZero(0), 5);
        }
    }

    @Sentence("There are three arrays, 0 to 2: each method that takes one knows these, and no others")
    static void arraysOfEachMethod() {
        for (int array : NO_ARRAYS) {
            for (Asking asking : asksForArray()) {
                due(asking.name + " " + array, asking.call(new TropicRanks(), array), NO_SUCH);
            }
        }
        for (int array = 0; array < 3; array++) {
            for (Asking asking : asksForArray()) {
                due(asking.name + " " + array, asking.call(new TropicRanks(), array), asking.want);
            }
        }
    }

    /** A call on an array of a new object that answers without an error, but for those that cannot. */
    private record Asking(String name, int want, ArrayCall toAsk) {
        int call(TropicRanks x, int array) {
            return toAsk.on(x, array);
        }
    }

    private interface ArrayCall {
        int on(TropicRanks x, int array);
    }

    private static Asking[] asksForArray() {
        return new Asking[] {
            new Asking("load", BAD_TEXT, (x, a) -> x.load(a)),
            new Asking("set", 0, (x, a) -> x.set(a, 0, 0, 5)),
            new Asking("raise", 5, (x, a) -> x.raise(a, true, 0, 5)),
            new Asking("exchange", BAD_VALUE, (x, a) -> x.exchange(a, true, 0, 0)),
            new Asking("drop", NOT_POSSIBLE, (x, a) -> x.drop(a, true, 0)),
            new Asking("turn", 1, (x, a) -> x.turn(a)),
            new Asking("product, first", 1, (x, a) -> x.product(a, 0, 0)),
            new Asking("product, second", 1, (x, a) -> x.product(0, a, 0)),
            new Asking("product, to", 1, (x, a) -> x.product(0, 0, a)),
            new Asking("close", 0, (x, a) -> x.close(a)),
            new Asking("entry", 0, (x, a) -> x.entry(a, 0, 0)),
            new Asking("permanent", 0, (x, a) -> x.permanent(a, 1, 1, 0)),
            new Asking("byParts", 1, (x, a) -> x.byParts(a, 0)),
            new Asking("canTouch", 1, (x, a) -> x.canTouch(a, 1)),
            new Asking("byCovers", 1, (x, a) -> x.byCovers(a, 0)),
            new Asking("cover", 0, (x, a) -> x.cover(a, 0)),
            new Asking("cone", 0, (x, a) -> x.cone(a, 0, 0, 0)),
            new Asking("factor", BAD_VALUE, (x, a) -> x.factor(a, 0, 0)),
            new Asking("byCone", 1, (x, a) -> x.byCone(a, false, 0)),
            new Asking("arrayOf", 1, (x, a) -> x.arrayOf(a, 0)),
            new Asking("ring", 1, (x, a) -> x.ring(a, 0)),
            new Asking("ifSet", 1, (x, a) -> x.ifSet(a, 0, 0, 5, 0)),
            new Asking("bestZero", 0, (x, a) -> x.bestZero(a)),
        };
    }

    @Sentence("each with 1 to 4 rows and 1 to 4 columns, but at most 12 entries; an entry is 0 to 999: after each change")
    static void arraysAfterEachChange() {
        for (int run = 0; run < 200; run++) {
            TropicRanks x = run % 2 == 0 ? busy() : full();
            // Always the same steps, but unlike ones for each run.
            int state = 7919 * run + 1;
            for (int change = 0; change < 12; change++) {
                state = state * 1103515245 + 12345;
                changeSomehow(x, state >>> 8 & 0xFFFF);
                dueSomeArrays(x, "run " + run + ", change " + change);
            }
        }
    }

    private static void changeSomehow(TropicRanks x, int mix) {
        int array = mix % 3;
        int other = mix / 3 % 3;
        int number = mix / 9 % 4;
        boolean isRow = mix / 36 % 2 == 0;
        int value = mix / 72 % 1000;
        switch (mix / 5 % 10) {
            case 0 -> x.set(array, number, other, value == 0 ? 999 : value);
            case 1 -> x.raise(array, isRow, number, value);
            case 2 -> x.raise(array, isRow, number, -value / 100);
            case 3 -> x.exchange(array, isRow, number, other);
            case 4 -> x.drop(array, isRow, number);
            case 5 -> x.turn(array);
            case 6 -> x.product(array, other, number);
            case 7 -> x.close(array);
            case 8 -> x.restore(number % 2);
            default -> x.undo();
        }
    }

    private static void dueSomeArrays(TropicRanks x, String when) {
        int all = 0;
        for (int array = 0; array < 3; array++) {
            int rows = x.arrayOf(array, 0);
            int columns = x.arrayOf(array, 1);
            all += rows * columns;
            boolean isForm = rows >= 1 && rows <= 4 && columns >= 1 && columns <= 4 && rows * columns <= 12;
            due(when + ", " + rows + " rows and " + columns + " columns are few enough", isForm ? 1 : 0, 1);
            due(when + ", the least entry is 0 or above", Math.min(x.arrayOf(array, 3), 0), 0);
            due(when + ", the greatest entry is 999 or below", Math.max(x.arrayOf(array, 2), 999), 999);
            due(when + ", the last entry is there", x.entry(array, rows - 1, columns - 1) >= 0 ? 1 : 0, 1);
            due(when + ", no row more", x.entry(array, rows, 0), NO_SUCH);
            due(when + ", no column more", x.entry(array, 0, columns), NO_SUCH);
        }
        due(when + ", entries of all arrays", x.count(0), all);
    }

    // ---- promise 1: a new object

    @Sentence("Creates three arrays of one entry (one row and one column with the entry 0 at first)")
    static void newArrays() {
        TropicRanks x = new TropicRanks();
        dueArrays(x, "0", "0", "0");
        due("entries", x.count(0), 3);
    }

    @Sentence("a new object has an empty pad, no change to undo, and nothing in its slots")
    static void newPadHistoryAndSlots() {
        TropicRanks x = new TropicRanks();
        due("pad", x.count(1), 0);
        due("wipe", x.wipe(), 0);
        due("fault", x.fault(), 0);
        due("load", x.load(0), BAD_TEXT);
        due("changes", x.count(2), 0);
        due("undo", x.undo(), NOT_POSSIBLE);
        due("restore 0", x.restore(0), NOT_POSSIBLE);
        due("restore 1", x.restore(1), NOT_POSSIBLE);
        dueArrays(x, "0", "0", "0");
    }

    @Sentence("two objects have nothing in common")
    static void newObjectsAreTheirOwn() {
        TropicRanks first = busy();
        TropicRanks second = new TropicRanks();
        full();
        dueArrays(second, "0", "0", "0");
        dueArrays(first, BUSY);
        due("byCovers of the one", first.byCovers(0, 0), 2);
        due("byCovers of the other", second.byCovers(0, 0), 1);
        dueAlike("beside others", first, busy());
        dueAlike("beside others", second, new TropicRanks());
    }

    // ---- promise 10: entry

    private static void entryIs(Supplier<TropicRanks> made, int array, int row, int column, int want) {
        stays(made, "entry " + array + " " + row + " " + column, x -> x.entry(array, row, column), want);
    }

    @Sentence("Returns an entry")
    static void entryOfEachPlace() {
        for (int row = 0; row < 3; row++) {
            for (int column = 0; column < 4; column++) {
                entryIs(having("10,11,12,13;14,15,16,17;18,19,20,21"), 0, row, column, 10 + 4 * row + column);
                entryIs(having("0", "10,14,18;11,15,19;12,16,20;13,17,21"), 1, column, row, 10 + 4 * row + column);
            }
        }
        entryIs(having("0", "0", "0,999"), 2, 0, 0, 0);
        entryIs(having("0", "0", "0,999"), 2, 0, 1, 999);
    }

    @Sentence("NO_SUCH if there is no such array")
    static void entryOfNoArray() {
        for (int array : NO_ARRAYS) {
            entryIs(Sheet::busy, array, 0, 0, NO_SUCH);
        }
    }

    @Sentence("NO_SUCH if there is no such entry")
    static void entryOfNoPlace() {
        for (int number : new int[] {-1, 2, 3, LOWEST, HIGHEST}) {
            entryIs(Sheet::busy, 0, number, 0, NO_SUCH);
            entryIs(Sheet::busy, 0, 0, number, NO_SUCH);
            entryIs(Sheet::busy, 0, number, number, NO_SUCH);
        }
        entryIs(Sheet::busy, 1, 1, 0, NO_SUCH);
        entryIs(Sheet::busy, 1, 0, 3, NO_SUCH);
        entryIs(Sheet::busy, 2, 0, 3, NO_SUCH);
        entryIs(Sheet::busy, 2, 1, -1, NO_SUCH);
        entryIs(Sheet::full, 0, 0, 4, NO_SUCH);
        entryIs(Sheet::full, 0, 3, 0, NO_SUCH);
        entryIs(Sheet::full, 1, 4, 0, NO_SUCH);
        entryIs(Sheet::full, 1, 0, 3, NO_SUCH);
    }

    // ---- promise 19: arrayOf

    private static void arrayHas(String text, int what, int want) {
        stays(having(text), "arrayOf " + what + " of " + text, x -> x.arrayOf(0, what), want);
    }

    @Sentence("0 its rows, 1 its columns")
    static void arrayOfForm() {
        for (int rows = 1; rows <= 4; rows++) {
            for (int columns = 1; columns <= 4 && rows * columns <= 12; columns++) {
                String row = "9,8,7,6".substring(0, 2 * columns - 1);
                String text = (row + ";").repeat(rows - 1) + row;
                arrayHas(text, 0, rows);
                arrayHas(text, 1, columns);
            }
        }
    }

    @Sentence("2 its greatest entry, 3 its least one: at the first place, within, at the last one")
    static void arrayOfGreatestAndLeast() {
        arrayHas("999,5;7,0", 2, 999);
        arrayHas("999,5;7,0", 3, 0);
        arrayHas("0,5;7,999", 2, 999);
        arrayHas("0,5;7,999", 3, 0);
        arrayHas("5,5,9,5;5,1,5,5;5,5,5,5", 2, 9);
        arrayHas("5,5,9,5;5,1,5,5;5,5,5,5", 3, 1);
        arrayHas("6", 2, 6);
        arrayHas("6", 3, 6);
        for (int place = 0; place < 12; place++) {
            StringBuilder text = new StringBuilder("5,5,5,5;5,5,5,5;5,5,5,5");
            text.setCharAt(2 * place, '9');
            arrayHas(text.toString(), 2, 9);
            arrayHas(text.toString(), 3, 5);
            text.setCharAt(2 * place, '1');
            arrayHas(text.toString(), 2, 5);
            arrayHas(text.toString(), 3, 1);
        }
    }

    @Sentence("2 its greatest entry, 3 its least one: what was dropped does not count")
    static void arrayOfGreatestAndLeastAfterDrop() {
        TropicRanks x = with("5,6;0,999");
        x.drop(0, true, 1);
        due("greatest", x.arrayOf(0, 2), 6);
        due("least", x.arrayOf(0, 3), 5);
        due("unlike", x.arrayOf(0, 4), 2);
    }

    @Sentence("4 unlike entries, how many")
    static void arrayOfUnlikeEntries() {
        arrayHas("0", 4, 1);
        arrayHas("5,5,5,5;5,5,5,5;5,5,5,5", 4, 1);
        arrayHas("1,2,3,4;5,6,7,8;9,10,11,12", 4, 12);
        arrayHas("1,2,3,4;5,6,7,8;9,10,11,1", 4, 11);
        arrayHas("1,2;2,1", 4, 2);
        arrayHas("0,0;0,999", 4, 2);
        arrayHas("1,1;2,2;3,3", 4, 3);
    }

    @Sentence("NO_SUCH if there is no such array; BAD_VALUE if what is out of range")
    static void arrayOfErrors() {
        for (int array : NO_ARRAYS) {
            stays(Sheet::busy, "arrayOf " + array, x -> x.arrayOf(array, 0), NO_SUCH);
            stays(Sheet::busy, "arrayOf " + array, x -> x.arrayOf(array, 5), NO_SUCH);
        }
        for (int what : new int[] {-1, 5, 6, LOWEST, HIGHEST}) {
            stays(Sheet::busy, "arrayOf, what " + what, x -> x.arrayOf(0, what), BAD_VALUE);
        }
    }

    // ---- promise 21: count

    private static void counts(Supplier<TropicRanks> made, int what, int want) {
        stays(made, "count " + what, x -> x.count(what), want);
    }

    @Sentence("0 entries of all arrays")
    static void countEntries() {
        counts(TropicRanks::new, 0, 3);
        counts(Sheet::busy, 0, 16);
        counts(having("1,2,3,4;1,2,3,4;1,2,3,4", "1,2,3;1,2,3;1,2,3;1,2,3", "1,2,3,4;1,2,3,4;1,2,3,4"), 0, 36);
        counts(having("1", "1,2"), 0, 4);
    }

    @Sentence("1 the length of the pad")
    static void countPad() {
        counts(TropicRanks::new, 1, 0);
        counts(Sheet::busy, 1, 3);
        counts(Sheet::full, 1, 80);
        TropicRanks x = new TropicRanks();
        for (int length = 1; length <= 80; length++) {
            due("put", x.put('1'), length);
            due("length", x.count(1), length);
        }
        due("full", x.put('1'), TOO_MANY);
        due("length", x.count(1), 80);
    }

    @Sentence("2 how many changes can be undone: at most 6")
    static void countChanges() {
        counts(TropicRanks::new, 2, 0);
        counts(Sheet::busy, 2, 4);
        counts(Sheet::full, 2, 6);
        TropicRanks x = new TropicRanks();
        for (int change = 1; change <= 9; change++) {
            x.set(0, 0, 0, change);
            due("changes", x.count(2), Math.min(change, 6));
        }
        for (int left = 5; left >= 0; left--) {
            x.undo();
            due("changes", x.count(2), left);
        }
    }

    @Sentence("BAD_VALUE if what is out of range")
    static void countErrors() {
        for (int what : new int[] {-1, 3, 4, LOWEST, HIGHEST}) {
            counts(Sheet::busy, what, BAD_VALUE);
        }
    }
}
