import java.lang.reflect.Method;
import java.lang.reflect.Modifier;
import java.util.ArrayList;
import java.util.Arrays;
import java.util.HashSet;
import java.util.List;
import java.util.Set;
import java.util.TreeSet;

/**
 * Long runs of calls, each answer compared with that of a second program that does what the
 * document's words say in the most direct way: by trying all permutations, all cover rows,
 * and covers as a system of inequalities.
 */
public final class ModelTest {
    private static final int RUNS = 400;
    private static final int CALLS = 512;
    private static final String[] CALL_NAMES = {
        "load", "set", "raise", "exchange", "drop", "turn", "product", "close", "entry", "permanent", "byParts",
        "canTouch", "byCovers", "cover", "cone", "factor", "byCone", "arrayOf", "ring", "count", "ifSet", "bestZero",
        "put", "wipe", "fault", "undo", "save", "restore", "write"
    };
    private static int wrong = 0;

    public static void main(String[] args) throws ReflectiveOperationException {
        int[] answered = new int[CALL_NAMES.length];
        int[] failed = new int[CALL_NAMES.length];
        for (int run = 0; run < RUNS; run++) {
            runOnce(run, answered, failed);
        }
        for (int call = 0; call < CALL_NAMES.length; call++) {
            if (answered[call] == 0) {
                wrong++;
                System.out.println("no call of " + CALL_NAMES[call] + " succeeded");
            }
        }
        System.out.println("calls that succeeded: " + Arrays.toString(answered));
        System.out.println("calls that failed: " + Arrays.toString(failed));
        System.out.println(wrong == 0 ? "all answers are as due" : wrong + " answers are not as due");
        if (wrong != 0) {
            System.exit(1);
        }
    }

    private static void runOnce(int run, int[] answered, int[] failed) throws ReflectiveOperationException {
        Dice dice = new Dice(run);
        TropicRanks real = new TropicRanks();
        Model model = new Model();
        // Small entries make ties, which is where the ranks are unlike; a bit of each is wanted.
        int most = new int[] {1, 2, 3, 5, 9, 40, 500, 999}[run % 8];
        boolean careless = run % 5 == 0;
        for (int i = 0; i < CALLS; i++) {
            Call call = Call.thrown(dice, model, most, careless);
            long got = call.on(real);
            long due = call.on(model);
            if (got != due) {
                wrong++;
                System.out.println("run " + run + ", call " + i + ": " + call + " answered " + got + ", due is " + due
                        + "; arrays " + model.show());
            }
            (due >= 0 || due == -6 ? answered : failed)[call.kind]++;
            if (wrong > 20) {
                return;
            }
        }
    }

    /** The same numbers on each machine. */
    private static final class Dice {
        private long state;

        Dice(int seed) {
            state = seed * 7919L + 12345;
        }

        int below(int bound) {
            state = state * 6364136223846793005L + 1442695040888963407L;
            return (int) ((state >>> 33) % bound);
        }
    }

    private static final class Call {
        private static final int[] EXTREMES = {
            Integer.MIN_VALUE, Integer.MIN_VALUE + 1, -1000, -6, 4, 12, 15, 16, 31, 32, 999, 4096, 1 << 30, Integer.MAX_VALUE
        };

        final int kind;
        final int[] a;
        final boolean flag;
        final long characters;
        final String text;

        Call(int kind, int[] a, boolean flag, long characters, String text) {
            this.kind = kind;
            this.a = a;
            this.flag = flag;
            this.characters = characters;
            this.text = text;
        }

        static Call thrown(Dice dice, Model model, int most, boolean careless) {
            int pick = dice.below(44);
            int kind = pick < 29 ? pick : new int[] {28, 28, 28, 28, 28, 28, 1, 1, 1, 12, 13, 14, 6, 6, 20}[pick - 29];
            boolean odd = dice.below(careless ? 4 : 12) == 0;
            int array = odd && dice.below(3) == 0 ? dice.below(6) - 2 : dice.below(3);
            int[][] grid = model.arrays.get(Math.floorMod(array, 3));
            int rows = grid.length;
            int columns = grid[0].length;
            int slack = odd ? 2 : 0;
            int row = dice.below(rows + slack) - (odd ? dice.below(2) : 0);
            int column = dice.below(columns + slack) - (odd ? dice.below(2) : 0);
            boolean flag = dice.below(2) == 0;
            int[] a = new int[5];
            a[0] = array;
            switch (CALL_NAMES[kind]) {
                case "set":
                case "entry":
                case "ifSet":
                    a[1] = row;
                    a[2] = column;
                    a[3] = odd && dice.below(2) == 0 ? dice.below(2) * 1001 - 1 : dice.below(most + 1);
                    a[4] = dice.below(4 + slack) - slack / 2;
                    break;
                case "raise":
                    a[1] = flag ? row : column;
                    a[2] = odd && dice.below(2) == 0 ? dice.below(2) * 2000 - 1000 : dice.below(2 * most + 1) - most;
                    break;
                case "exchange":
                    a[1] = flag ? row : column;
                    a[2] = dice.below((flag ? rows : columns) + slack) - slack / 2;
                    break;
                case "drop":
                    a[1] = flag ? row : column;
                    break;
                case "product":
                    a[1] = dice.below(3 + slack) - slack / 2;
                    a[2] = dice.below(3 + slack) - slack / 2;
                    break;
                case "permanent":
                    a[1] = 1 + dice.below((1 << rows) - 1 + slack) - slack / 2;
                    a[2] = 1 + dice.below((1 << columns) - 1 + slack) - slack / 2;
                    for (int tries = 0; !odd && Integer.bitCount(a[1]) != Integer.bitCount(a[2]) && tries < 50; tries++) {
                        a[2] = 1 + dice.below((1 << columns) - 1);
                    }
                    a[3] = dice.below(3 + slack) - slack / 2;
                    break;
                case "canTouch":
                    a[1] = dice.below((1 << rows * columns) + slack) - slack / 2;
                    if (dice.below(2) == 0) {
                        a[1] &= dice.below(1 << rows * columns);
                    }
                    break;
                case "cover":
                    a[1] = dice.below(rows * columns + slack) - slack / 2;
                    break;
                case "cone":
                    a[1] = column;
                    a[2] = dice.below((1 << columns) + slack) - slack / 2;
                    if (!odd) {
                        a[2] &= ~(1 << column);
                    }
                    a[3] = dice.below(2 + slack) - slack / 2;
                    break;
                case "factor":
                    a[1] = column;
                    a[2] = dice.below(columns + slack) - slack / 2;
                    break;
                case "byParts":
                    a[1] = dice.below(4 + slack) - slack / 2;
                    break;
                case "byCovers":
                case "ring":
                    a[1] = dice.below(3 + slack) - slack / 2;
                    break;
                case "byCone":
                    a[1] = dice.below(2 + slack) - slack / 2;
                    break;
                case "arrayOf":
                    a[1] = dice.below(5 + slack) - slack / 2;
                    break;
                case "count":
                    a[0] = dice.below(3 + slack) - slack / 2;
                    break;
                case "save":
                case "restore":
                    a[0] = dice.below(2 + slack) - slack / 2;
                    break;
                default:
                    break;
            }
            if (odd && dice.below(6) == 0) {
                a[dice.below(a.length)] = EXTREMES[dice.below(EXTREMES.length)];
            }
            long characters = kind == 22 ? someCharacters(dice) : 0;
            String text = kind == 28 ? someText(dice, most, odd) : "";
            return new Call(kind, a, flag, characters, text);
        }

        private static long someCharacters(Dice dice) {
            String signs = ",,;;0011239";
            long packed = 0;
            int length = dice.below(9);
            for (int i = 0; i < length; i++) {
                packed = packed << 8 | signs.charAt(dice.below(signs.length()));
            }
            int twist = dice.below(24);
            if (twist == 0) {
                packed <<= 8;
            } else if (twist == 1) {
                packed |= 1L << dice.below(64);
            } else if (twist == 2) {
                packed = -packed;
            } else if (twist == 3) {
                packed &= ~(255L << 8 * dice.below(8));
            }
            return packed;
        }

        private static String someText(Dice dice, int most, boolean odd) {
            int rows = 1 + dice.below(4);
            int columns = 1 + dice.below(4);
            while (!odd && rows * columns > 12) {
                rows = 1 + dice.below(4);
                columns = 1 + dice.below(4);
            }
            if (odd) {
                rows += dice.below(2);
                columns += dice.below(2);
            }
            StringBuilder text = new StringBuilder();
            for (int row = 0; row < rows; row++) {
                int inRow = columns + (odd && dice.below(4) == 0 ? 1 : 0);
                text.append(row > 0 ? ";" : "");
                for (int column = 0; column < inRow; column++) {
                    text.append(column > 0 ? "," : "").append(dice.below(most + 1));
                }
            }
            return text.toString();
        }

        long on(Object target) throws ReflectiveOperationException {
            if (!CALL_NAMES[kind].equals("write")) {
                return invoke(target, CALL_NAMES[kind], characters);
            }
            // The whole text is put, and loaded; the answer mixes all those on the way.
            invoke(target, "wipe", 0);
            long mixed = 0;
            for (long packed : packed()) {
                mixed = mixed * 31 + invoke(target, "put", packed);
            }
            mixed = mixed * 31 + invoke(target, "fault", 0);
            return Math.abs(mixed * 31 + invoke(target, "load", 0));
        }

        /** The ints are the arguments of this call, in their order. */
        private long invoke(Object target, String name, long packed) throws ReflectiveOperationException {
            Method method = methodOf(target.getClass(), name);
            Class<?>[] types = method.getParameterTypes();
            Object[] arguments = new Object[types.length];
            int ints = 0;
            for (int i = 0; i < types.length; i++) {
                if (types[i] == boolean.class) {
                    arguments[i] = flag;
                } else if (types[i] == long.class) {
                    arguments[i] = packed;
                } else {
                    arguments[i] = a[ints];
                    ints++;
                }
            }
            return (Integer) method.invoke(target, arguments);
        }

        /** The one that is not static, as the model has helpers of the same name. */
        private static Method methodOf(Class<?> type, String name) {
            for (Method method : type.getDeclaredMethods()) {
                if (method.getName().equals(name) && !Modifier.isStatic(method.getModifiers())) {
                    return method;
                }
            }
            throw new IllegalStateException("no method " + name);
        }

        private List<Long> packed() {
            List<Long> all = new ArrayList<>();
            for (int from = 0; from < text.length(); from += 8) {
                long packed = 0;
                for (char c : text.substring(from, Math.min(from + 8, text.length())).toCharArray()) {
                    packed = packed << 8 | c;
                }
                all.add(packed);
            }
            return all;
        }

        @Override
        public String toString() {
            return CALL_NAMES[kind] + Arrays.toString(a) + " " + flag + " " + characters + " " + text;
        }
    }

    /** The document, word by word. */
    private static final class Model {
        private static final int NO_SUCH = -1;
        private static final int BAD_VALUE = -2;
        private static final int BAD_TEXT = -3;
        private static final int TOO_MANY = -4;
        private static final int NOT_POSSIBLE = -5;
        private static final int NONE = -6;
        private static final String ENTRY = "(0|[1-9][0-9]{0,2})";

        List<int[][]> arrays = new ArrayList<>(List.of(new int[1][1], new int[1][1], new int[1][1]));
        final List<List<int[][]>> history = new ArrayList<>();
        final List<List<int[][]>> slots = new ArrayList<>(Arrays.asList(null, null));
        String pad = "";

        String show() {
            return Arrays.deepToString(arrays.toArray());
        }

        private static int[][] copy(int[][] grid) {
            int[][] copy = new int[grid.length][];
            for (int i = 0; i < grid.length; i++) {
                copy[i] = grid[i].clone();
            }
            return copy;
        }

        private static List<int[][]> copy(List<int[][]> all) {
            List<int[][]> copies = new ArrayList<>();
            for (int[][] grid : all) {
                copies.add(copy(grid));
            }
            return copies;
        }

        private void change(int array, int[][] grid) {
            history.add(copy(arrays));
            if (history.size() > 6) {
                history.remove(0);
            }
            arrays.set(array, grid);
        }

        private static boolean noArray(int array) {
            return array < 0 || array > 2;
        }

        private static boolean noEntry(int[][] g, int row, int column) {
            return row < 0 || row >= g.length || column < 0 || column >= g[0].length;
        }

        private static int size(int[][] g) {
            return g.length * g[0].length;
        }

        private static int greatest(int[][] g) {
            return Arrays.stream(g).flatMapToInt(Arrays::stream).max().getAsInt();
        }

        private static int[][] turned(int[][] g) {
            int[][] t = new int[g[0].length][g.length];
            for (int i = 0; i < g.length; i++) {
                for (int j = 0; j < g[0].length; j++) {
                    t[j][i] = g[i][j];
                }
            }
            return t;
        }

        int load(int array) {
            if (noArray(array)) {
                return NO_SUCH;
            }
            if (!pad.matches(ENTRY + "([,;]" + ENTRY + ")*")) {
                return BAD_TEXT;
            }
            String[] rows = pad.split(";");
            int all = 0;
            boolean tooLong = rows.length > 4;
            Set<Integer> lengths = new HashSet<>();
            for (String row : rows) {
                int length = row.split(",").length;
                all += length;
                tooLong |= length > 4;
                lengths.add(length);
            }
            if (tooLong || all > 12) {
                return TOO_MANY;
            }
            if (lengths.size() > 1) {
                return BAD_VALUE;
            }
            int[][] grid = new int[rows.length][];
            for (int i = 0; i < rows.length; i++) {
                grid[i] = Arrays.stream(rows[i].split(",")).mapToInt(Integer::parseInt).toArray();
            }
            change(array, grid);
            pad = "";
            return size(grid);
        }

        int set(int array, int row, int column, int value) {
            if (noArray(array) || noEntry(arrays.get(array), row, column)) {
                return NO_SUCH;
            }
            if (value < 0 || value > 999) {
                return BAD_VALUE;
            }
            int[][] grid = copy(arrays.get(array));
            int previous = grid[row][column];
            grid[row][column] = value;
            change(array, grid);
            return previous;
        }

        private static int[][] orient(int[][] g, boolean isRow) {
            return isRow ? copy(g) : turned(g);
        }

        int raise(int array, boolean isRow, int number, int by) {
            if (noArray(array) || number < 0 || number >= orient(arrays.get(array), isRow).length) {
                return NO_SUCH;
            }
            if (by < -999 || by > 999) {
                return BAD_VALUE;
            }
            int[][] g = orient(arrays.get(array), isRow);
            for (int j = 0; j < g[number].length; j++) {
                g[number][j] += by;
                if (g[number][j] < 0 || g[number][j] > 999) {
                    return NOT_POSSIBLE;
                }
            }
            change(array, orient(g, isRow));
            return greatest(g);
        }

        int exchange(int array, boolean isRow, int number, int other) {
            if (noArray(array)) {
                return NO_SUCH;
            }
            int[][] g = orient(arrays.get(array), isRow);
            if (number < 0 || number >= g.length || other < 0 || other >= g.length) {
                return NO_SUCH;
            }
            if (number == other) {
                return BAD_VALUE;
            }
            int[] line = g[number];
            g[number] = g[other];
            g[other] = line;
            change(array, orient(g, isRow));
            return Arrays.equals(g[number], g[other]) ? 0 : 1;
        }

        int drop(int array, boolean isRow, int number) {
            if (noArray(array)) {
                return NO_SUCH;
            }
            int[][] g = orient(arrays.get(array), isRow);
            if (number < 0 || number >= g.length) {
                return NO_SUCH;
            }
            if (g.length == 1) {
                return NOT_POSSIBLE;
            }
            List<int[]> lines = new ArrayList<>(Arrays.asList(g));
            lines.remove(number);
            int[][] less = lines.toArray(new int[0][]);
            change(array, orient(less, isRow));
            return size(less);
        }

        int turn(int array) {
            if (noArray(array)) {
                return NO_SUCH;
            }
            change(array, turned(arrays.get(array)));
            return arrays.get(array).length;
        }

        int product(int first, int second, int to) {
            if (noArray(first) || noArray(second) || noArray(to)) {
                return NO_SUCH;
            }
            int[][] f = arrays.get(first);
            int[][] s = arrays.get(second);
            if (f[0].length != s.length) {
                return NOT_POSSIBLE;
            }
            int[][] p = new int[f.length][s[0].length];
            for (int i = 0; i < f.length; i++) {
                for (int j = 0; j < s[0].length; j++) {
                    TreeSet<Integer> sums = new TreeSet<>();
                    for (int k = 0; k < s.length; k++) {
                        sums.add(f[i][k] + s[k][j]);
                    }
                    p[i][j] = sums.first();
                }
            }
            if (size(p) > 12 || greatest(p) > 999) {
                return TOO_MANY;
            }
            change(to, p);
            return size(p);
        }

        int close(int array) {
            if (noArray(array)) {
                return NO_SUCH;
            }
            int[][] g = arrays.get(array);
            int n = g.length;
            if (n != g[0].length) {
                return NOT_POSSIBLE;
            }
            int[][] best = copy(g);
            int[][] walks = copy(g);
            for (int steps = 2; steps <= 5; steps++) {
                int[][] longer = new int[n][n];
                for (int i = 0; i < n; i++) {
                    for (int j = 0; j < n; j++) {
                        longer[i][j] = Integer.MAX_VALUE;
                        for (int k = 0; k < n; k++) {
                            longer[i][j] = Math.min(longer[i][j], walks[i][k] + g[k][j]);
                        }
                        best[i][j] = Math.min(best[i][j], longer[i][j]);
                    }
                }
                walks = longer;
            }
            int less = 0;
            for (int i = 0; i < n; i++) {
                for (int j = 0; j < n; j++) {
                    less += best[i][j] < g[i][j] ? 1 : 0;
                }
            }
            change(array, best);
            return less;
        }

        int entry(int array, int row, int column) {
            return noArray(array) || noEntry(arrays.get(array), row, column) ? NO_SUCH : arrays.get(array)[row][column];
        }

        private static List<Integer> members(int set) {
            List<Integer> all = new ArrayList<>();
            for (int i = 0; i < 31; i++) {
                if ((set >> i & 1) == 1) {
                    all.add(i);
                }
            }
            return all;
        }

        private static List<List<Integer>> permutations(List<Integer> of) {
            if (of.isEmpty()) {
                return List.of(List.of());
            }
            List<List<Integer>> all = new ArrayList<>();
            for (Integer first : of) {
                List<Integer> rest = new ArrayList<>(of);
                rest.remove(first);
                for (List<Integer> tail : permutations(rest)) {
                    List<Integer> one = new ArrayList<>(List.of(first));
                    one.addAll(tail);
                    all.add(one);
                }
            }
            return all;
        }

        private static int[] sums(int[][] g, int rows, int columns) {
            List<Integer> r = members(rows);
            return permutations(members(columns)).stream().mapToInt(way -> {
                int sum = 0;
                for (int i = 0; i < r.size(); i++) {
                    sum += g[r.get(i)][way.get(i)];
                }
                return sum;
            }).sorted().toArray();
        }

        private static boolean badPart(int[][] g, int rows, int columns) {
            return rows <= 0 || columns <= 0 || rows >= 1 << g.length || columns >= 1 << g[0].length
                    || members(rows).size() != members(columns).size();
        }

        int permanent(int array, int rows, int columns, int what) {
            if (noArray(array)) {
                return NO_SUCH;
            }
            int[][] g = arrays.get(array);
            if (badPart(g, rows, columns) || what < 0 || what > 2) {
                return BAD_VALUE;
            }
            int[] sums = sums(g, rows, columns);
            if (what == 1) {
                return (int) Arrays.stream(sums).filter(sum -> sum == sums[0]).count();
            }
            return what == 0 ? sums[0] : sums[sums.length - 1];
        }

        private static int[] byParts(int[][] g) {
            int[] best = new int[4];
            for (int size = 4; size >= 1; size--) {
                for (int rows = 0; rows < 1 << g.length; rows++) {
                    for (int columns = 0; columns < 1 << g[0].length; columns++) {
                        if (badPart(g, rows, columns) || members(rows).size() != size) {
                            continue;
                        }
                        int[] sums = sums(g, rows, columns);
                        if (sums.length == 1 || sums[0] < sums[1]) {
                            best[3]++;
                            if (best[0] == 0) {
                                best[0] = size;
                                best[1] = rows;
                                best[2] = columns;
                            }
                        }
                    }
                }
            }
            return best;
        }

        int byParts(int array, int what) {
            if (noArray(array)) {
                return NO_SUCH;
            }
            return what < 0 || what > 3 ? BAD_VALUE : byParts(arrays.get(array))[what];
        }

        /** Bellman and Ford: u(i) - w(j) >= entry everywhere, and <= entry at the touched places, with w = -v. */
        private static boolean touches(int[][] g, int places) {
            int m = g.length;
            int n = g[0].length;
            int[] at = new int[m + n];
            for (int round = 0; round <= m + n; round++) {
                boolean moved = false;
                for (int i = 0; i < m; i++) {
                    for (int j = 0; j < n; j++) {
                        if (at[m + j] > at[i] - g[i][j]) {
                            at[m + j] = at[i] - g[i][j];
                            moved = true;
                        }
                        if ((places >> (i * n + j) & 1) == 1 && at[i] > at[m + j] + g[i][j]) {
                            at[i] = at[m + j] + g[i][j];
                            moved = true;
                        }
                    }
                }
                if (!moved) {
                    return true;
                }
            }
            return false;
        }

        private static boolean[] touchable(int[][] g) {
            boolean[] touchable = new boolean[1 << size(g)];
            for (int places = 0; places < touchable.length; places++) {
                touchable[places] = touches(g, places);
            }
            return touchable;
        }

        /** Tries all rows of numbers in their order. */
        private static int[] firstCoverRow(int[][] g) {
            boolean[] touchable = touchable(g);
            int n = size(g);
            for (int rank = 1;; rank++) {
                int[] row = new int[n];
                boolean more = true;
                while (more) {
                    int[] sets = new int[rank];
                    for (int place = 0; place < n; place++) {
                        sets[row[place]] |= 1 << place;
                    }
                    if (Arrays.stream(sets).allMatch(set -> touchable[set])) {
                        int[] answer = Arrays.copyOf(row, n + 1);
                        answer[n] = rank;
                        return answer;
                    }
                    int last = n - 1;
                    while (last >= 0 && row[last] == rank - 1) {
                        row[last] = 0;
                        last--;
                    }
                    more = last >= 0;
                    if (more) {
                        row[last]++;
                    }
                }
            }
        }

        private static int coverRank(int[][] g) {
            return firstCoverRow(g)[size(g)];
        }

        int canTouch(int array, int places) {
            if (noArray(array)) {
                return NO_SUCH;
            }
            int[][] g = arrays.get(array);
            if (places < 0 || places >= 1 << size(g)) {
                return BAD_VALUE;
            }
            return touches(g, places) ? 1 : 0;
        }

        int byCovers(int array, int what) {
            if (noArray(array)) {
                return NO_SUCH;
            }
            if (what < 0 || what > 2) {
                return BAD_VALUE;
            }
            int[][] g = arrays.get(array);
            if (what == 0) {
                return coverRank(g);
            }
            boolean[] touchable = touchable(g);
            int number = 0;
            int most = 0;
            for (int places = 0; places < touchable.length; places++) {
                if (touchable[places]) {
                    number++;
                    most = Math.max(most, members(places).size());
                }
            }
            return what == 1 ? number : most;
        }

        int cover(int array, int place) {
            if (noArray(array) || place < 0 || place >= size(arrays.get(array))) {
                return NO_SUCH;
            }
            return firstCoverRow(arrays.get(array))[place];
        }

        private static int factorOf(int[][] g, int column, int k) {
            return Arrays.stream(g).mapToInt(row -> row[column] - row[k]).max().getAsInt();
        }

        private static int missed(int[][] g, int column, int others) {
            int missed = 0;
            for (int i = 0; i < g.length; i++) {
                int least = Integer.MAX_VALUE;
                for (int k : members(others)) {
                    least = Math.min(least, factorOf(g, column, k) + g[i][k]);
                }
                missed |= least == g[i][column] ? 0 : 1 << i;
            }
            return missed;
        }

        int cone(int array, int column, int others, int what) {
            if (noArray(array) || noEntry(arrays.get(array), 0, column)) {
                return NO_SUCH;
            }
            int[][] g = arrays.get(array);
            if (others < 0 || members(others).contains(column) || others >= 1 << g[0].length || what < 0 || what > 1) {
                return BAD_VALUE;
            }
            int missed = missed(g, column, others);
            return what == 1 ? missed : missed == 0 ? 1 : 0;
        }

        int factor(int array, int column, int k) {
            if (noArray(array) || noEntry(arrays.get(array), 0, column) || noEntry(arrays.get(array), 0, k)) {
                return NO_SUCH;
            }
            return column == k ? BAD_VALUE : factorOf(arrays.get(array), column, k) + 1000;
        }

        private static int needed(int[][] g, boolean isRows) {
            int[][] t = isRows ? turned(g) : g;
            int stay = (1 << t[0].length) - 1;
            for (int c = 0; c < t[0].length; c++) {
                if (missed(t, c, stay & ~(1 << c)) == 0) {
                    stay &= ~(1 << c);
                }
            }
            return stay;
        }

        int byCone(int array, boolean isRows, int what) {
            if (noArray(array)) {
                return NO_SUCH;
            }
            if (what < 0 || what > 1) {
                return BAD_VALUE;
            }
            int needed = needed(arrays.get(array), isRows);
            return what == 1 ? needed : members(needed).size();
        }

        int arrayOf(int array, int what) {
            if (noArray(array)) {
                return NO_SUCH;
            }
            int[][] g = arrays.get(array);
            TreeSet<Integer> values = new TreeSet<>();
            Arrays.stream(g).flatMapToInt(Arrays::stream).forEach(values::add);
            switch (what) {
                case 0: return g.length;
                case 1: return g[0].length;
                case 2: return values.last();
                case 3: return values.first();
                case 4: return values.size();
                default: return BAD_VALUE;
            }
        }

        int ring(int array, int what) {
            if (noArray(array)) {
                return NO_SUCH;
            }
            if (what < 0 || what > 2) {
                return BAD_VALUE;
            }
            int[][] g = arrays.get(array);
            if (g.length != g[0].length) {
                return NOT_POSSIBLE;
            }
            Set<String> steps = new HashSet<>();
            int bestSum = 0;
            int bestLength = 0;
            for (int numbers = 1; numbers < 1 << g.length; numbers++) {
                for (List<Integer> ring : permutations(members(numbers))) {
                    TreeSet<String> own = new TreeSet<>();
                    int sum = 0;
                    for (int i = 0; i < ring.size(); i++) {
                        int from = ring.get(i);
                        int to = ring.get((i + 1) % ring.size());
                        own.add(from + ">" + to);
                        sum += g[from][to];
                    }
                    steps.add(own.toString());
                    int length = ring.size();
                    if (bestLength == 0 || (double) sum / length < (double) bestSum / bestLength - 1e-9
                            || Math.abs((double) sum / length - (double) bestSum / bestLength) < 1e-9
                                    && length < bestLength) {
                        bestSum = sum;
                        bestLength = length;
                    }
                }
            }
            return what == 0 ? steps.size() : what == 1 ? bestSum : bestLength;
        }

        private int allEntries() {
            return arrays.stream().mapToInt(Model::size).sum();
        }

        int count(int what) {
            switch (what) {
                case 0: return allEntries();
                case 1: return pad.length();
                case 2: return history.size();
                default: return BAD_VALUE;
            }
        }

        int ifSet(int array, int row, int column, int value, int what) {
            if (noArray(array) || noEntry(arrays.get(array), row, column)) {
                return NO_SUCH;
            }
            if (value < 0 || value > 999 || what < 0 || what > 3) {
                return BAD_VALUE;
            }
            int[][] g = copy(arrays.get(array));
            g[row][column] = value;
            switch (what) {
                case 0: return byParts(g)[0];
                case 1: return coverRank(g);
                default: return members(needed(g, what == 3)).size();
            }
        }

        int bestZero(int array) {
            if (noArray(array)) {
                return NO_SUCH;
            }
            int best = -1;
            int least = 99;
            int[][] own = arrays.get(array);
            for (int place = size(own) - 1; place >= 0; place--) {
                int[][] g = copy(own);
                g[place / g[0].length][place % g[0].length] = 0;
                int rank = coverRank(g);
                if (rank <= least) {
                    least = rank;
                    best = place;
                }
            }
            return best;
        }

        int put(long characters) {
            String text = "";
            boolean ended = false;
            for (int i = 0; i < 8; i++) {
                int code = (int) (characters >>> 8 * i) & 255;
                if (code == 0) {
                    ended = true;
                } else if (ended || code < 33 || code > 126) {
                    return BAD_VALUE;
                } else {
                    text = (char) code + text;
                }
            }
            if (text.isEmpty()) {
                return BAD_VALUE;
            }
            if (pad.length() + text.length() > 80) {
                return TOO_MANY;
            }
            pad += text;
            return pad.length();
        }

        int wipe() {
            int length = pad.length();
            pad = "";
            return length;
        }

        int fault() {
            if (pad.matches(ENTRY + "([,;]" + ENTRY + ")*")) {
                return NONE;
            }
            for (int i = 0; i < pad.length(); i++) {
                if (!pad.substring(0, i + 1).matches("(" + ENTRY + "[,;])*" + ENTRY + "?")) {
                    return i;
                }
            }
            return pad.length();
        }

        int undo() {
            if (history.isEmpty()) {
                return NOT_POSSIBLE;
            }
            arrays = history.remove(history.size() - 1);
            return history.size();
        }

        int save(int slot) {
            if (slot < 0 || slot > 1) {
                return BAD_VALUE;
            }
            slots.set(slot, copy(arrays));
            return allEntries();
        }

        int restore(int slot) {
            if (slot < 0 || slot > 1) {
                return BAD_VALUE;
            }
            if (slots.get(slot) == null) {
                return NOT_POSSIBLE;
            }
            change(0, arrays.get(0));
            arrays = copy(slots.get(slot));
            return allEntries();
        }
    }
}
