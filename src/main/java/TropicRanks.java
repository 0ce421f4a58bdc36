/**
 * Three arrays of numbers in which least sums take the place of sums, and sums
 * that of products, with their ranks by parts, by covers and by columns.
 *
 * Whatever a call needs is made once, with the object: no call makes an object.
 */
public final class TropicRanks {
    public static final int NO_SUCH = -1, BAD_VALUE = -2, BAD_TEXT = -3, TOO_MANY = -4, NOT_POSSIBLE = -5, NONE = -6;

    private static final int ARRAYS = 3;
    private static final int MOST_LINES = 4;
    private static final int MOST_ENTRIES = 12;
    private static final int MOST_VALUE = 999;
    private static final int FACTOR_SHIFT = 1000;
    private static final int SLOTS = 2;

    private static final int BY_PARTS = 0;
    private static final int BY_COVERS = 1;
    private static final int BY_COLUMNS = 2;
    private static final int BY_ROWS = 3;

    private final State now = new State();
    private final History history = new History();
    private final State[] slots = new State[SLOTS];
    private final boolean[] saved = new boolean[SLOTS];
    private final Pad pad = new Pad();

    // Where a result, or an array that is only supposed, is made before it is taken.
    private final Grid spare = new Grid();
    private final Grid turned = new Grid();

    private final Ways ways = new Ways();
    private final Parts parts = new Parts();
    private final Covers covers = new Covers();
    private final Rings rings = new Rings();

    public TropicRanks() {
        for (int slot = 0; slot < SLOTS; slot++) {
            slots[slot] = new State();
        }
    }

    // ---- changes

    public int load(int array) {
        if (!isArray(array)) {
            return NO_SUCH;
        }
        if (pad.firstFault() != NONE) {
            return BAD_TEXT;
        }
        pad.measure();
        if (pad.rows > MOST_LINES || pad.longestRow > MOST_LINES || pad.entries > MOST_ENTRIES) {
            return TOO_MANY;
        }
        if (pad.longestRow != pad.shortestRow) {
            return BAD_VALUE;
        }
        history.remember(now);
        Grid grid = now.grids[array];
        pad.readInto(grid);
        pad.length = 0;
        return grid.size();
    }

    public int set(int array, int row, int column, int value) {
        if (!isArray(array) || !now.grids[array].has(row, column)) {
            return NO_SUCH;
        }
        if (!isValue(value)) {
            return BAD_VALUE;
        }
        Grid grid = now.grids[array];
        int previous = grid.at(row, column);
        history.remember(now);
        grid.assign(row, column, value);
        return previous;
    }

    public int raise(int array, boolean isRow, int number, int by) {
        if (!isArray(array) || !now.grids[array].hasLine(isRow, number)) {
            return NO_SUCH;
        }
        if (by < -MOST_VALUE || by > MOST_VALUE) {
            return BAD_VALUE;
        }
        Grid grid = now.grids[array];
        if (!grid.canAdd(isRow, number, by)) {
            return NOT_POSSIBLE;
        }
        history.remember(now);
        grid.add(isRow, number, by);
        return grid.greatest();
    }

    public int exchange(int array, boolean isRow, int number, int other) {
        if (!isArray(array) || !now.grids[array].hasLine(isRow, number) || !now.grids[array].hasLine(isRow, other)) {
            return NO_SUCH;
        }
        if (number == other) {
            return BAD_VALUE;
        }
        history.remember(now);
        return now.grids[array].swapLines(isRow, number, other) ? 1 : 0;
    }

    public int drop(int array, boolean isRow, int number) {
        if (!isArray(array) || !now.grids[array].hasLine(isRow, number)) {
            return NO_SUCH;
        }
        Grid grid = now.grids[array];
        if (grid.lines(isRow) == 1) {
            return NOT_POSSIBLE;
        }
        history.remember(now);
        grid.removeLine(isRow, number);
        return grid.size();
    }

    public int turn(int array) {
        if (!isArray(array)) {
            return NO_SUCH;
        }
        history.remember(now);
        Grid grid = now.grids[array];
        turned.becomeTurned(grid);
        grid.become(turned);
        return grid.rows;
    }

    public int product(int first, int second, int to) {
        if (!isArray(first) || !isArray(second) || !isArray(to)) {
            return NO_SUCH;
        }
        Grid left = now.grids[first];
        Grid right = now.grids[second];
        if (left.columns != right.rows) {
            return NOT_POSSIBLE;
        }
        if (left.rows * right.columns > MOST_ENTRIES) {
            return TOO_MANY;
        }
        spare.becomeProduct(left, right);
        if (spare.greatest() > MOST_VALUE) {
            return TOO_MANY;
        }
        history.remember(now);
        now.grids[to].become(spare);
        return spare.size();
    }

    public int close(int array) {
        if (!isArray(array)) {
            return NO_SUCH;
        }
        Grid grid = now.grids[array];
        if (grid.rows != grid.columns) {
            return NOT_POSSIBLE;
        }
        history.remember(now);
        spare.become(grid);
        grid.shortenWays();
        return grid.unlikeIn(spare);
    }

    // ---- entries, permanents; nothing changes

    public int entry(int array, int row, int column) {
        if (!isArray(array) || !now.grids[array].has(row, column)) {
            return NO_SUCH;
        }
        return now.grids[array].at(row, column);
    }

    public int permanent(int array, int rows, int columns, int what) {
        if (!isArray(array)) {
            return NO_SUCH;
        }
        Grid grid = now.grids[array];
        if (!isPart(grid, rows, columns) || what < 0 || what > 2) {
            return BAD_VALUE;
        }
        ways.gather(grid, rows, columns);
        if (what == 0) {
            return ways.leastSum();
        }
        return what == 1 ? ways.withLeastSum() : ways.greatestSum();
    }

    public int byParts(int array, int what) {
        if (!isArray(array)) {
            return NO_SUCH;
        }
        if (what < 0 || what > 3) {
            return BAD_VALUE;
        }
        parts.study(now.grids[array], ways);
        switch (what) {
            case 0:
                return parts.rank;
            case 1:
                return parts.rows;
            case 2:
                return parts.columns;
            default:
                return parts.regular;
        }
    }

    // ---- covers; nothing changes

    public int canTouch(int array, int places) {
        if (!isArray(array)) {
            return NO_SUCH;
        }
        Grid grid = now.grids[array];
        if (!isSet(places, grid.size())) {
            return BAD_VALUE;
        }
        covers.study(grid, ways);
        return covers.canTouchAll(places) ? 1 : 0;
    }

    public int byCovers(int array, int what) {
        if (!isArray(array)) {
            return NO_SUCH;
        }
        if (what < 0 || what > 2) {
            return BAD_VALUE;
        }
        covers.study(now.grids[array], ways);
        if (what == 0) {
            return covers.findFirstRow();
        }
        return what == 1 ? covers.touchableSets() : covers.greatestSet();
    }

    public int cover(int array, int place) {
        if (!isArray(array) || place < 0 || place >= now.grids[array].size()) {
            return NO_SUCH;
        }
        covers.study(now.grids[array], ways);
        covers.findFirstRow();
        return covers.firstRow[place];
    }

    // ---- cones; nothing changes

    public int cone(int array, int column, int others, int what) {
        if (!isArray(array) || !now.grids[array].hasLine(false, column)) {
            return NO_SUCH;
        }
        Grid grid = now.grids[array];
        if (!isSet(others, grid.columns) || (others & 1 << column) != 0 || what < 0 || what > 1) {
            return BAD_VALUE;
        }
        int missed = Cones.missedRows(grid, column, others);
        if (what == 1) {
            return missed;
        }
        return missed == 0 ? 1 : 0;
    }

    public int factor(int array, int column, int k) {
        if (!isArray(array) || !now.grids[array].hasLine(false, column) || !now.grids[array].hasLine(false, k)) {
            return NO_SUCH;
        }
        if (column == k) {
            return BAD_VALUE;
        }
        return Cones.greatestDifference(now.grids[array], column, k) + FACTOR_SHIFT;
    }

    public int byCone(int array, boolean isRows, int what) {
        if (!isArray(array)) {
            return NO_SUCH;
        }
        if (what < 0 || what > 1) {
            return BAD_VALUE;
        }
        int needed = neededLines(now.grids[array], isRows);
        return what == 1 ? needed : Integer.bitCount(needed);
    }

    // ---- numbers, rings; nothing changes

    public int arrayOf(int array, int what) {
        if (!isArray(array)) {
            return NO_SUCH;
        }
        Grid grid = now.grids[array];
        switch (what) {
            case 0:
                return grid.rows;
            case 1:
                return grid.columns;
            case 2:
                return grid.greatest();
            case 3:
                return grid.least();
            case 4:
                return grid.unlikeEntries();
            default:
                return BAD_VALUE;
        }
    }

    public int ring(int array, int what) {
        if (!isArray(array)) {
            return NO_SUCH;
        }
        if (what < 0 || what > 2) {
            return BAD_VALUE;
        }
        Grid grid = now.grids[array];
        if (grid.rows != grid.columns) {
            return NOT_POSSIBLE;
        }
        rings.study(grid);
        if (what == 0) {
            return rings.found;
        }
        return what == 1 ? rings.bestSum : rings.bestLength;
    }

    public int count(int what) {
        switch (what) {
            case 0:
                return now.size();
            case 1:
                return pad.length;
            case 2:
                return history.size;
            default:
                return BAD_VALUE;
        }
    }

    // ---- what if; nothing changes

    public int ifSet(int array, int row, int column, int value, int what) {
        if (!isArray(array) || !now.grids[array].has(row, column)) {
            return NO_SUCH;
        }
        if (!isValue(value) || what < BY_PARTS || what > BY_ROWS) {
            return BAD_VALUE;
        }
        spare.become(now.grids[array]);
        spare.assign(row, column, value);
        return rank(spare, what);
    }

    public int bestZero(int array) {
        if (!isArray(array)) {
            return NO_SUCH;
        }
        Grid grid = now.grids[array];
        int best = 0;
        int leastRank = MOST_ENTRIES + 1;
        for (int row = 0; row < grid.rows; row++) {
            for (int column = 0; column < grid.columns; column++) {
                spare.become(grid);
                spare.assign(row, column, 0);
                int rank = rank(spare, BY_COVERS);
                if (rank < leastRank) {
                    leastRank = rank;
                    best = grid.place(row, column);
                }
            }
        }
        return best;
    }

    // ---- texts

    public int put(long characters) {
        int more = Pad.charactersIn(characters);
        if (more == 0) {
            return BAD_VALUE;
        }
        if (pad.length + more > Pad.MOST_CHARACTERS) {
            return TOO_MANY;
        }
        pad.append(characters, more);
        return pad.length;
    }

    public int wipe() {
        int length = pad.length;
        pad.length = 0;
        return length;
    }

    public int fault() {
        return pad.firstFault();
    }

    // ---- undo, saving

    public int undo() {
        if (history.size == 0) {
            return NOT_POSSIBLE;
        }
        history.takeBack(now);
        return history.size;
    }

    public int save(int slot) {
        if (!isSlot(slot)) {
            return BAD_VALUE;
        }
        slots[slot].become(now);
        saved[slot] = true;
        return now.size();
    }

    public int restore(int slot) {
        if (!isSlot(slot)) {
            return BAD_VALUE;
        }
        if (!saved[slot]) {
            return NOT_POSSIBLE;
        }
        history.remember(now);
        now.become(slots[slot]);
        return now.size();
    }

    // ---- what the calls share

    private static boolean isArray(int array) {
        return array >= 0 && array < ARRAYS;
    }

    private static boolean isSlot(int slot) {
        return slot >= 0 && slot < SLOTS;
    }

    private static boolean isValue(int value) {
        return value >= 0 && value <= MOST_VALUE;
    }

    /** Whether a bit mask is a set of some of the first so many numbers. */
    private static boolean isSet(int mask, int numbers) {
        return mask >= 0 && mask < 1 << numbers;
    }

    private static boolean isPart(Grid grid, int rows, int columns) {
        return rows != 0 && isSet(rows, grid.rows) && isSet(columns, grid.columns)
                && Integer.bitCount(rows) == Integer.bitCount(columns);
    }

    private int rank(Grid grid, int kind) {
        switch (kind) {
            case BY_PARTS:
                parts.study(grid, ways);
                return parts.rank;
            case BY_COVERS:
                covers.study(grid, ways);
                return covers.findFirstRow();
            case BY_COLUMNS:
                return Integer.bitCount(neededLines(grid, false));
            default:
                return Integer.bitCount(neededLines(grid, true));
        }
    }

    private int neededLines(Grid grid, boolean isRows) {
        if (!isRows) {
            return Cones.neededColumns(grid);
        }
        turned.becomeTurned(grid);
        return Cones.neededColumns(turned);
    }

    /** An array of numbers; a line of it is one of its rows or of its columns. */
    private static final class Grid {
        private final int[] entries = new int[MOST_ENTRIES];
        private int rows = 1;
        private int columns = 1;

        private int size() {
            return rows * columns;
        }

        private boolean has(int row, int column) {
            return row >= 0 && row < rows && column >= 0 && column < columns;
        }

        private int place(int row, int column) {
            return row * columns + column;
        }

        private int at(int row, int column) {
            return entries[place(row, column)];
        }

        private void assign(int row, int column, int value) {
            entries[place(row, column)] = value;
        }

        private void reshape(int newRows, int newColumns) {
            rows = newRows;
            columns = newColumns;
        }

        private void become(Grid other) {
            reshape(other.rows, other.columns);
            System.arraycopy(other.entries, 0, entries, 0, MOST_ENTRIES);
        }

        private void becomeTurned(Grid other) {
            reshape(other.columns, other.rows);
            for (int row = 0; row < rows; row++) {
                for (int column = 0; column < columns; column++) {
                    assign(row, column, other.at(column, row));
                }
            }
        }

        private void becomeProduct(Grid left, Grid right) {
            reshape(left.rows, right.columns);
            for (int row = 0; row < rows; row++) {
                for (int column = 0; column < columns; column++) {
                    int least = left.at(row, 0) + right.at(0, column);
                    for (int k = 1; k < left.columns; k++) {
                        least = Math.min(least, left.at(row, k) + right.at(k, column));
                    }
                    assign(row, column, least);
                }
            }
        }

        /** Entries are never below 0, so a way over each number between at most once is the least. */
        private void shortenWays() {
            for (int between = 0; between < rows; between++) {
                for (int from = 0; from < rows; from++) {
                    for (int to = 0; to < rows; to++) {
                        assign(from, to, Math.min(at(from, to), at(from, between) + at(between, to)));
                    }
                }
            }
        }

        private int greatest() {
            int greatest = entries[0];
            for (int place = 1; place < size(); place++) {
                greatest = Math.max(greatest, entries[place]);
            }
            return greatest;
        }

        private int least() {
            int least = entries[0];
            for (int place = 1; place < size(); place++) {
                least = Math.min(least, entries[place]);
            }
            return least;
        }

        private int unlikeEntries() {
            int unlike = 0;
            for (int place = 0; place < size(); place++) {
                int before = 0;
                while (before < place && entries[before] != entries[place]) {
                    before++;
                }
                if (before == place) {
                    unlike++;
                }
            }
            return unlike;
        }

        /** At how many places an array of the same form has another entry. */
        private int unlikeIn(Grid other) {
            int unlike = 0;
            for (int place = 0; place < size(); place++) {
                if (entries[place] != other.entries[place]) {
                    unlike++;
                }
            }
            return unlike;
        }

        private int lines(boolean isRow) {
            return isRow ? rows : columns;
        }

        private boolean hasLine(boolean isRow, int number) {
            return number >= 0 && number < lines(isRow);
        }

        private int placeInLine(boolean isRow, int number, int index) {
            return isRow ? place(number, index) : place(index, number);
        }

        private boolean canAdd(boolean isRow, int number, int by) {
            for (int index = 0; index < lines(!isRow); index++) {
                if (!isValue(entries[placeInLine(isRow, number, index)] + by)) {
                    return false;
                }
            }
            return true;
        }

        private void add(boolean isRow, int number, int by) {
            for (int index = 0; index < lines(!isRow); index++) {
                entries[placeInLine(isRow, number, index)] += by;
            }
        }

        /** Tells whether the two lines were unlike. */
        private boolean swapLines(boolean isRow, int number, int other) {
            boolean unlike = false;
            for (int index = 0; index < lines(!isRow); index++) {
                int place = placeInLine(isRow, number, index);
                int otherPlace = placeInLine(isRow, other, index);
                int entry = entries[place];
                unlike = unlike || entry != entries[otherPlace];
                entries[place] = entries[otherPlace];
                entries[otherPlace] = entry;
            }
            return unlike;
        }

        private void removeLine(boolean isRow, int number) {
            // No entry moves to a later place, so none is overwritten before it is read.
            int kept = 0;
            for (int row = 0; row < rows; row++) {
                for (int column = 0; column < columns; column++) {
                    if ((isRow ? row : column) != number) {
                        entries[kept] = at(row, column);
                        kept++;
                    }
                }
            }
            reshape(isRow ? rows - 1 : rows, isRow ? columns : columns - 1);
        }
    }

    /** What undo and the slots keep: the three arrays. */
    private static final class State {
        private final Grid[] grids = new Grid[ARRAYS];

        private State() {
            for (int array = 0; array < ARRAYS; array++) {
                grids[array] = new Grid();
            }
        }

        private void become(State other) {
            for (int array = 0; array < ARRAYS; array++) {
                grids[array].become(other.grids[array]);
            }
        }

        private int size() {
            int size = 0;
            for (int array = 0; array < ARRAYS; array++) {
                size += grids[array].size();
            }
            return size;
        }
    }

    /** The latest states, in a ring in which the newest one overwrites the oldest one. */
    private static final class History {
        private static final int MOST_STATES = 6;

        private final State[] states = new State[MOST_STATES];
        private int next = 0;
        private int size = 0;

        private History() {
            for (int state = 0; state < MOST_STATES; state++) {
                states[state] = new State();
            }
        }

        private void remember(State state) {
            states[next].become(state);
            next = (next + 1) % MOST_STATES;
            size = Math.min(size + 1, MOST_STATES);
        }

        private void takeBack(State state) {
            if (size > 0) {
                next = (next + MOST_STATES - 1) % MOST_STATES;
                size--;
                state.become(states[next]);
            }
        }
    }

    /** The text of an array, and how many rows and entries it has once it was measured. */
    private static final class Pad {
        private static final int MOST_CHARACTERS = 80;
        private static final int MOST_AT_ONCE = 8;
        private static final int NO_DIGIT = -1;

        private final char[] characters = new char[MOST_CHARACTERS];
        private int length = 0;
        private int rows;
        private int entries;
        private int longestRow;
        private int shortestRow;

        /** How many characters a number gives; 0 if it gives none, or wrong ones. */
        private static int charactersIn(long packed) {
            int found = 0;
            long rest = packed;
            while (rest != 0 && found < MOST_AT_ONCE) {
                int code = (int) (rest & 255);
                if (code < 33 || code > 126) {
                    return 0;
                }
                found++;
                rest >>>= 8;
            }
            return found;
        }

        private void append(long packed, int more) {
            for (int index = 0; index < more; index++) {
                characters[length + index] = (char) (packed >>> 8 * (more - 1 - index) & 255);
            }
            length += more;
        }

        private static boolean isDigit(char character) {
            return character >= '0' && character <= '9';
        }

        private int firstFault() {
            int value = NO_DIGIT;
            for (int index = 0; index < length; index++) {
                char character = characters[index];
                if (isDigit(character)) {
                    value = withDigit(value, character);
                    if (value > MOST_VALUE) {
                        return index;
                    }
                } else if (value != NO_DIGIT && (character == ',' || character == ';')) {
                    value = NO_DIGIT;
                } else {
                    return index;
                }
            }
            return value == NO_DIGIT ? length : NONE;
        }

        /** The entry with one more digit; above all entries if the digit cannot stand there. */
        private static int withDigit(int value, char digit) {
            if (value == 0) {
                return MOST_VALUE + 1;
            }
            return Math.max(value, 0) * 10 + (digit - '0');
        }

        /** Counts rows and entries of a text that has no fault. */
        private void measure() {
            rows = 0;
            entries = 0;
            longestRow = 0;
            shortestRow = MOST_CHARACTERS;
            int inRow = 1;
            for (int index = 0; index <= length; index++) {
                if (index == length || characters[index] == ';') {
                    rows++;
                    entries += inRow;
                    longestRow = Math.max(longestRow, inRow);
                    shortestRow = Math.min(shortestRow, inRow);
                    inRow = 1;
                } else if (characters[index] == ',') {
                    inRow++;
                }
            }
        }

        /** Reads a text that has no fault, was measured, and fits. */
        private void readInto(Grid grid) {
            grid.reshape(rows, longestRow);
            int place = 0;
            int value = 0;
            for (int index = 0; index <= length; index++) {
                if (index < length && isDigit(characters[index])) {
                    value = value * 10 + (characters[index] - '0');
                } else if (place < MOST_ENTRIES) {
                    grid.entries[place] = value;
                    place++;
                    value = 0;
                }
            }
        }
    }

    /** The ways through a part: the sum and the places of each. */
    private static final class Ways {
        private static final int MOST_WAYS = 24;

        private final int[] sums = new int[MOST_WAYS];
        private final int[] places = new int[MOST_WAYS];
        private int found;

        private void gather(Grid grid, int rows, int columns) {
            found = 0;
            goOn(this, grid, 0, rows, columns, 0, 0);
        }

        /** Goes on from a row with the columns that the rows before it left; one level for each row. */
        private static void goOn(Ways ways, Grid grid, int row, int rows, int columns, int sum, int places) {
            if (row >= grid.rows) {
                ways.keep(sum, places);
            } else if ((rows & 1 << row) == 0) {
                goOn(ways, grid, row + 1, rows, columns, sum, places);
            } else {
                for (int column = 0; column < grid.columns; column++) {
                    if ((columns & 1 << column) != 0) {
                        goOn(ways, grid, row + 1, rows, columns & ~(1 << column),
                                sum + grid.at(row, column), places | 1 << grid.place(row, column));
                    }
                }
            }
        }

        private void keep(int sum, int placesOfWay) {
            if (found < MOST_WAYS) {
                sums[found] = sum;
                places[found] = placesOfWay;
                found++;
            }
        }

        private int leastSum() {
            int least = sums[0];
            for (int way = 1; way < found; way++) {
                least = Math.min(least, sums[way]);
            }
            return least;
        }

        private int greatestSum() {
            int greatest = sums[0];
            for (int way = 1; way < found; way++) {
                greatest = Math.max(greatest, sums[way]);
            }
            return greatest;
        }

        private int withLeastSum() {
            int least = leastSum();
            int with = 0;
            for (int way = 0; way < found; way++) {
                if (sums[way] == least) {
                    with++;
                }
            }
            return with;
        }
    }

    /** The regular parts of an array. */
    private static final class Parts {
        private int rank;
        private int rows;
        private int columns;
        private int regular;

        private void study(Grid grid, Ways ways) {
            rank = 0;
            rows = 0;
            columns = 0;
            regular = 0;
            for (int someRows = 1; someRows < 1 << grid.rows; someRows++) {
                for (int someColumns = 1; someColumns < 1 << grid.columns; someColumns++) {
                    if (isPart(grid, someRows, someColumns)) {
                        look(grid, ways, someRows, someColumns);
                    }
                }
            }
        }

        private void look(Grid grid, Ways ways, int someRows, int someColumns) {
            ways.gather(grid, someRows, someColumns);
            if (ways.withLeastSum() != 1) {
                return;
            }
            regular++;
            // The parts come with the least sets first, so the first one of a size stays.
            if (Integer.bitCount(someRows) > rank) {
                rank = Integer.bitCount(someRows);
                rows = someRows;
                columns = someColumns;
            }
        }
    }

    /**
     * The sets of places of an array that can be touched.
     *
     * A cover asks u(i) + v(j) >= entry everywhere and <= entry at the touched places. Such
     * differences can be had just if no ring of them goes below 0, and a ring sets the touched
     * places of a way through a part against the places of another way: so a set can be touched
     * just if no way inside it has a lesser sum than another way through the same part.
     */
    private static final class Covers {
        private static final int MOST_SETS = 1 << MOST_ENTRIES;
        private static final int PLACES_IN_WORD = 6;
        private static final int WORDS = MOST_SETS >> PLACES_IN_WORD;

        // For each of the lowest places, which sets in a word do not have it.
        private static final long[] WITHOUT = {
            0x5555555555555555L, 0x3333333333333333L, 0x0F0F0F0F0F0F0F0FL,
            0x00FF00FF00FF00FFL, 0x0000FFFF0000FFFFL, 0x00000000FFFFFFFFL
        };

        // Bit (set & 63) of word (set >> 6) tells that a set cannot be touched: all supersets
        // of a set are so marked at once, which goes through 4096 sets quickly.
        private final long[] untouchable = new long[WORDS];
        private final int[] firstRow = new int[MOST_ENTRIES];
        private final int[] placesWith = new int[MOST_ENTRIES];
        private int places;

        private void study(Grid grid, Ways ways) {
            places = grid.size();
            for (int word = 0; word < WORDS; word++) {
                untouchable[word] = 0;
            }
            for (int rows = 1; rows < 1 << grid.rows; rows++) {
                for (int columns = 1; columns < 1 << grid.columns; columns++) {
                    if (isPart(grid, rows, columns)) {
                        ways.gather(grid, rows, columns);
                        markLesser(ways);
                    }
                }
            }
            markSupersets();
        }

        private void markLesser(Ways ways) {
            int greatest = ways.greatestSum();
            for (int way = 0; way < ways.found; way++) {
                if (ways.sums[way] < greatest) {
                    int set = ways.places[way];
                    untouchable[set >> PLACES_IN_WORD] |= 1L << (set & 63);
                }
            }
        }

        private void markSupersets() {
            int lowPlaces = Math.min(places, PLACES_IN_WORD);
            for (int word = 0; word < WORDS; word++) {
                for (int place = 0; place < lowPlaces; place++) {
                    untouchable[word] |= (untouchable[word] & WITHOUT[place]) << (1 << place);
                }
            }
            for (int place = PLACES_IN_WORD; place < places; place++) {
                int step = 1 << (place - PLACES_IN_WORD);
                for (int word = 0; word < WORDS; word++) {
                    if ((word & step) != 0) {
                        untouchable[word] |= untouchable[word - step];
                    }
                }
            }
        }

        private boolean canTouchAll(int set) {
            return (untouchable[set >> PLACES_IN_WORD] >>> (set & 63) & 1) == 0;
        }

        private int touchableSets() {
            int sets = 1 << places;
            for (int word = 0; word < WORDS; word++) {
                sets -= Long.bitCount(untouchable[word]);
            }
            return sets;
        }

        private int greatestSet() {
            int greatest = 0;
            for (int set = 0; set < 1 << places; set++) {
                if (Integer.bitCount(set) > greatest && canTouchAll(set)) {
                    greatest = Integer.bitCount(set);
                }
            }
            return greatest;
        }

        /** Finds the first cover row, and returns the rank; each single place can be touched. */
        private int findFirstRow() {
            int rank = 0;
            boolean isFound = false;
            while (!isFound && rank < places) {
                rank++;
                for (int number = 0; number < rank; number++) {
                    placesWith[number] = 0;
                }
                isFound = fill(this, 0, rank);
            }
            return rank;
        }

        /** Numbers the places from one on, with the least numbers that work; one level for each place. */
        private static boolean fill(Covers covers, int place, int numbers) {
            if (place >= covers.places) {
                return true;
            }
            for (int number = 0; number < numbers; number++) {
                int before = covers.placesWith[number];
                if (covers.canTouchAll(before | 1 << place)) {
                    covers.placesWith[number] = before | 1 << place;
                    covers.firstRow[place] = number;
                    if (fill(covers, place + 1, numbers)) {
                        return true;
                    }
                    covers.placesWith[number] = before;
                }
                // A number that no place has yet works just as any later one.
                if (before == 0) {
                    return false;
                }
            }
            return false;
        }
    }

    /** Which columns come from which. */
    private static final class Cones {
        private static int greatestDifference(Grid grid, int column, int k) {
            int greatest = grid.at(0, column) - grid.at(0, k);
            for (int row = 1; row < grid.rows; row++) {
                greatest = Math.max(greatest, grid.at(row, column) - grid.at(row, k));
            }
            return greatest;
        }

        /**
         * The rows in which a column is not the least of all f(k) + entry. None of these is below
         * the column's own entry, so that it is the least just if one of them is the same.
         */
        private static int missedRows(Grid grid, int column, int others) {
            int missed = (1 << grid.rows) - 1;
            for (int k = 0; k < grid.columns; k++) {
                if ((others & 1 << k) != 0) {
                    int factorOfK = greatestDifference(grid, column, k);
                    for (int row = 0; row < grid.rows; row++) {
                        if (factorOfK + grid.at(row, k) == grid.at(row, column)) {
                            missed &= ~(1 << row);
                        }
                    }
                }
            }
            return missed;
        }

        private static int neededColumns(Grid grid) {
            int needed = (1 << grid.columns) - 1;
            for (int column = 0; column < grid.columns; column++) {
                int others = needed & ~(1 << column);
                if (missedRows(grid, column, others) == 0) {
                    needed = others;
                }
            }
            return needed;
        }
    }

    /** The rings of an array with as many rows as columns. */
    private static final class Rings {
        private int found;
        private int bestSum;
        private int bestLength;

        private void study(Grid grid) {
            found = 0;
            bestSum = 0;
            bestLength = 0;
            for (int start = 0; start < grid.rows; start++) {
                goOn(this, grid, start, start, 1 << start, 0, 1);
            }
        }

        /** Goes on from the last number of a ring that starts with its least one; one level for each number. */
        private static void goOn(Rings rings, Grid grid, int start, int last, int numbers, int sum, int length) {
            rings.keep(sum + grid.at(last, start), length);
            for (int next = start + 1; next < grid.rows && length < grid.rows; next++) {
                if ((numbers & 1 << next) == 0) {
                    goOn(rings, grid, start, next, numbers | 1 << next, sum + grid.at(last, next), length + 1);
                }
            }
        }

        private void keep(int sum, int length) {
            found++;
            // The means are compared crosswise, to do without fractions.
            int order = sum * bestLength - bestSum * length;
            if (bestLength == 0 || order < 0 || order == 0 && length < bestLength) {
                bestSum = sum;
                bestLength = length;
            }
        }
    }
}
