import java.util.function.Supplier;

/** The edges of the promises 2 to 9: load, set, raise, exchange, drop, turn, product, close. */
public final class EdgesOfChangesTest extends Sheet {
    public static void main(String[] args) throws IllegalAccessException {
        runSentences(EdgesOfChangesTest.class);
    }

    // ---- promise 2: load

    private static Supplier<TropicRanks> busyWith(String text) {
        return () -> {
            TropicRanks x = busy();
            x.wipe();
            write(x, text);
            return x;
        };
    }

    /** Loads a text into an array: all of the promise but its errors. */
    private static void loads(String text, int array) {
        TropicRanks x = busyWith(text).get();
        due("load " + text, x.load(array), entriesIn(text));
        due("pad after load " + text, x.count(1), 0);
        due("fault after load " + text, x.fault(), 0);
        due("changes after load " + text, x.count(2), 5);
        for (int other = 0; other < 3; other++) {
            dueArray(x, other, other == array ? text : BUSY[other]);
        }
        due("undo of load " + text, x.undo(), 4);
        due("pad after undo of load " + text, x.count(1), 0);
        TropicRanks twin = busyWith("").get();
        dueAlike("undone load " + text, x, twin);
    }

    private static void loadFails(String text, int array, int error) {
        stays(busyWith(text), "load " + array + " of " + text, x -> x.load(array), error);
    }

    @Sentence("Takes the array of the pad in place of an array")
    static void loadIntoEachArray() {
        for (int array = 0; array < 3; array++) {
            loads("7,0;1,999", array);
            loads("3", array);
        }
    }

    @Sentence("and empties the pad")
    static void loadTwice() {
        TropicRanks x = busy();
        due("load", x.load(0), 2);
        due("load again", x.load(1), BAD_TEXT);
        due("length", x.wipe(), 0);
        write(x, "4");
        due("load anew", x.load(1), 1);
        dueArrays(x, "8;8", "4");
    }

    @Sentence("Returns how many entries it has: 1 to 4 rows and 1 to 4 columns, but at most 12 entries")
    static void loadOfEachForm() {
        for (int rows = 1; rows <= 4; rows++) {
            for (int columns = 1; columns <= 4; columns++) {
                String row = "10,20,30,40".substring(0, 3 * columns - 1);
                String text = (row + ";").repeat(rows - 1) + row;
                if (rows * columns <= 12) {
                    loads(text, 1);
                } else {
                    loadFails(text, 1, TOO_MANY);
                }
            }
        }
    }

    @Sentence("an entry is a number from 0 to 999")
    static void loadOfLeastAndGreatestEntries() {
        loads("0", 0);
        loads("999", 0);
        loads("0,999;999,0", 0);
        loads("999,999,999,999;999,999,999,999;999,999,999,999", 2);
        loads("100,10,1;101,11,9", 2);
        loadFails("1000", 0, BAD_TEXT);
        loadFails("0,1000", 0, BAD_TEXT);
    }

    @Sentence("NO_SUCH if there is no such array")
    static void loadNoArray() {
        for (int array : NO_ARRAYS) {
            loadFails("8;8", array, NO_SUCH);
        }
    }

    @Sentence("BAD_TEXT if the pad has a fault: at its first character")
    static void loadFaultAtFirst() {
        loadFails(",1", 0, BAD_TEXT);
        loadFails(";", 0, BAD_TEXT);
        loadFails("x", 0, BAD_TEXT);
    }

    @Sentence("BAD_TEXT if the pad has a fault: within it, and at its last character")
    static void loadFaultWithin() {
        loadFails("1,x,2", 0, BAD_TEXT);
        loadFails("1,2;;3,4", 0, BAD_TEXT);
        loadFails("1,2;3,4x", 0, BAD_TEXT);
        loadFails("1,02", 0, BAD_TEXT);
    }

    @Sentence("BAD_TEXT if the pad has a fault: the text ends too early, or is empty")
    static void loadFaultAtEnd() {
        loadFails("", 0, BAD_TEXT);
        loadFails("1,2;3,", 0, BAD_TEXT);
        loadFails("1,2;", 0, BAD_TEXT);
    }

    @Sentence("a text of at most 80 characters, with and without a fault")
    static void loadOfFullPad() {
        loadFails("1,".repeat(39) + "12", 0, TOO_MANY);
        loadFails("1;".repeat(39) + "12", 0, TOO_MANY);
        loadFails("1,".repeat(40), 0, BAD_TEXT);
        loadFails("1,".repeat(39) + "1x", 0, BAD_TEXT);
        loadFails("999;".repeat(19) + "9990", 0, BAD_TEXT);
    }

    @Sentence("TOO_MANY if it has more than 4 rows")
    static void loadFiveRows() {
        loads("1;2;3;4", 0);
        loadFails("1;2;3;4;5", 0, TOO_MANY);
        loadFails("1,1;2,2;3,3;4,4;5,5", 0, TOO_MANY);
        loadFails("1;2;3;4;5;6;7;8;9;10;11;12", 0, TOO_MANY);
    }

    @Sentence("TOO_MANY if a row has more than 4 entries: the first, one within, or the last one")
    static void loadFiveInARow() {
        loads("1,2,3,4", 0);
        loadFails("1,2,3,4,5", 0, TOO_MANY);
        loadFails("1,2,3,4,5;1", 0, TOO_MANY);
        loadFails("1;1,2,3,4,5;1", 0, TOO_MANY);
        loadFails("1;1,2,3,4,5", 0, TOO_MANY);
        loadFails("1,2,3,4,5;1,2,3,4,5", 0, TOO_MANY);
    }

    @Sentence("TOO_MANY if all rows have more than 12")
    static void loadThirteenEntries() {
        loads("1,2,3,4;5,6,7,8;9,10,11,12", 0);
        loads("1,2,3;4,5,6;7,8,9;10,11,12", 0);
        loadFails("1,2,3,4;1,2,3,4;1,2,3,4;1", 0, TOO_MANY);
        loadFails("1;1,2,3,4;1,2,3,4;1,2,3,4", 0, TOO_MANY);
        loadFails("1,2,3,4;1,2,3,4;1,2,3,4;1,2,3,4", 0, TOO_MANY);
    }

    @Sentence("BAD_VALUE if its rows are not all of the same length: the first, one within, or the last one")
    static void loadUnlikeRows() {
        loadFails("1;1,2;1,2", 0, BAD_VALUE);
        loadFails("1,2;1;1,2", 0, BAD_VALUE);
        loadFails("1,2;1,2;1", 0, BAD_VALUE);
        loadFails("1,2,3;1,2;1,2", 0, BAD_VALUE);
        loadFails("1,2;1,2,3;1,2", 0, BAD_VALUE);
        loadFails("1,2;1,2;1,2,3", 0, BAD_VALUE);
        loadFails("1,2,3;1", 0, BAD_VALUE);
        loadFails("1,2,3,4;1,2,3,4;1,2,3;1", 0, BAD_VALUE);
    }

    @Sentence("The first error that applies: NO_SUCH, BAD_TEXT, TOO_MANY, BAD_VALUE")
    static void loadErrorsInOrder() {
        loadFails("", 3, NO_SUCH);
        loadFails("1;2;3;4;5", -1, NO_SUCH);
        loadFails("1,2;1", 3, NO_SUCH);
        loadFails("1;2;3;4;5;", 0, BAD_TEXT);
        loadFails("1,2,3,4,5,x", 0, BAD_TEXT);
        loadFails("1,2;1;", 0, BAD_TEXT);
        loadFails("1,2;1;1;1;1", 0, TOO_MANY);
        loadFails("1;1,2,3,4,5", 0, TOO_MANY);
        loadFails("1,2,3,4;1,2,3,4;1,2,3,4;1", 0, TOO_MANY);
    }

    @Sentence("A call that returns an error changes nothing: the text can be gone on with")
    static void loadAfterAFault() {
        TropicRanks x = busyWith("1,2;3,").get();
        due("too early", x.load(0), BAD_TEXT);
        write(x, "4");
        due("gone on with", x.load(0), 4);
        dueArray(x, 0, "1,2;3,4");
        write(x, "1;2,3");
        due("unlike rows", x.load(1), BAD_VALUE);
        due("wipe", x.wipe(), 5);
        due("empty", x.load(1), BAD_TEXT);
    }

    // ---- promise 3: set

    private static void setFails(int array, int row, int column, int value, int error) {
        stays(Sheet::busy, "set " + array + " " + row + " " + column + " " + value,
                x -> x.set(array, row, column, value), error);
    }

    @Sentence("Changes an entry. Returns the previous one")
    static void setEachEntry() {
        for (int row = 0; row < 3; row++) {
            for (int column = 0; column < 4; column++) {
                int place = row * 4 + column;
                int at = row;
                int in = column;
                String[] entries = "10,11,12,13,14,15,16,17,18,19,20,21".split(",");
                TropicRanks x = changes(having("10,11,12,13;14,15,16,17;18,19,20,21"), "set place " + place,
                        y -> y.set(0, at, in, 99), 10 + place);
                entries[place] = "99";
                String all = String.join(",", entries);
                dueArrays(x, all.substring(0, 11) + ";" + all.substring(12, 23) + ";" + all.substring(24), "0", "0");
            }
        }
    }

    @Sentence("This is a change (also if nothing is different then)")
    static void setTheSame() {
        TropicRanks x = changes(Sheet::busy, "set the same", y -> y.set(0, 1, 1, 4), 4);
        dueArrays(x, BUSY);
    }

    @Sentence("value: 0 to 999; BAD_VALUE if value is out of range")
    static void setLeastAndGreatestValue() {
        dueArray(changes(Sheet::busy, "set 0", x -> x.set(0, 0, 1, 0), 2), 0, "6,0;3,4");
        dueArray(changes(Sheet::busy, "set 1", x -> x.set(0, 0, 1, 1), 2), 0, "6,1;3,4");
        dueArray(changes(Sheet::busy, "set 998", x -> x.set(0, 0, 1, 998), 2), 0, "6,998;3,4");
        dueArray(changes(Sheet::busy, "set 999", x -> x.set(0, 0, 1, 999), 2), 0, "6,999;3,4");
        for (int value : new int[] {-1, 1000, 1001, -999, LOWEST, HIGHEST}) {
            setFails(0, 0, 1, value, BAD_VALUE);
        }
    }

    @Sentence("NO_SUCH if there is no such array")
    static void setNoArray() {
        for (int array : NO_ARRAYS) {
            setFails(array, 0, 0, 5, NO_SUCH);
        }
    }

    @Sentence("NO_SUCH if there is no such entry: no such row")
    static void setNoRow() {
        for (int row : new int[] {-1, 2, 3, LOWEST, HIGHEST}) {
            setFails(0, row, 0, 5, NO_SUCH);
        }
        setFails(1, 1, 0, 5, NO_SUCH);
        stays(Sheet::full, "set row 3 of 3", x -> x.set(0, 3, 0, 5), NO_SUCH);
        stays(Sheet::full, "set row 4 of 4", x -> x.set(1, 4, 0, 5), NO_SUCH);
    }

    @Sentence("NO_SUCH if there is no such entry: no such column")
    static void setNoColumn() {
        for (int column : new int[] {-1, 2, 3, LOWEST, HIGHEST}) {
            setFails(0, 0, column, 5, NO_SUCH);
        }
        setFails(1, 0, 3, 5, NO_SUCH);
        // These would be places of the array, if a row could be left over its end.
        setFails(2, 0, 3, 5, NO_SUCH);
        setFails(2, 1, -1, 5, NO_SUCH);
        stays(Sheet::full, "set column 4 of 4", x -> x.set(0, 0, 4, 5), NO_SUCH);
    }

    @Sentence("The first error that applies: NO_SUCH, BAD_VALUE")
    static void setErrorsInOrder() {
        setFails(3, 0, 0, 1000, NO_SUCH);
        setFails(0, 2, 0, -1, NO_SUCH);
        setFails(0, 0, 2, 1000, NO_SUCH);
    }

    // ---- promise 4: raise

    private static void raiseFails(int array, boolean isRow, int number, int by, int error) {
        stays(Sheet::busy, "raise " + array + " " + isRow + " " + number + " " + by,
                x -> x.raise(array, isRow, number, by), error);
    }

    @Sentence("Makes all entries of a row greater. Returns the greatest entry of the array then")
    static void raiseEachRow() {
        dueArrays(changes(Sheet::busy, "row 0", x -> x.raise(2, true, 0, 5), 14), BUSY[0], BUSY[1],
                "14,6,14;9,9,1;1,9,9");
        dueArray(changes(Sheet::busy, "row 1", x -> x.raise(2, true, 1, 7), 16), 2, "9,1,9;16,16,8;1,9,9");
        dueArray(changes(Sheet::busy, "row 2", x -> x.raise(2, true, 2, 1), 10), 2, "9,1,9;9,9,1;2,10,10");
        dueArray(changes(Sheet::busy, "the greatest is elsewhere", x -> x.raise(0, true, 1, 1), 6), 0, "6,2;4,5");
    }

    @Sentence("Makes all entries of a column greater")
    static void raiseEachColumn() {
        dueArrays(changes(Sheet::busy, "column 0", x -> x.raise(2, false, 0, 5), 14), BUSY[0], BUSY[1],
                "14,1,9;14,9,1;6,9,9");
        dueArray(changes(Sheet::busy, "column 1", x -> x.raise(2, false, 1, 7), 16), 2, "9,8,9;9,16,1;1,16,9");
        dueArray(changes(Sheet::busy, "column 2", x -> x.raise(2, false, 2, 1), 10), 2, "9,1,10;9,9,2;1,9,10");
        dueArray(changes(Sheet::busy, "the greatest is elsewhere", x -> x.raise(0, false, 1, 1), 6), 0, "6,3;3,5");
    }

    @Sentence("(or less, if it is below 0)")
    static void raiseByLessThanNothing() {
        dueArray(changes(Sheet::busy, "row", x -> x.raise(2, true, 1, -1), 9), 2, "9,1,9;8,8,0;1,9,9");
        dueArray(changes(Sheet::busy, "column", x -> x.raise(2, false, 0, -1), 9), 2, "8,1,9;8,9,1;0,9,9");
        dueArray(changes(Sheet::busy, "the greatest gets less", x -> x.raise(0, true, 0, -2), 4), 0, "4,0;3,4");
    }

    @Sentence("This is a change (also if nothing is different then)")
    static void raiseByNothing() {
        dueArrays(changes(Sheet::busy, "row by 0", x -> x.raise(0, true, 0, 0), 6), BUSY);
        dueArrays(changes(Sheet::busy, "column by 0", x -> x.raise(1, false, 1, 0), 7), BUSY);
    }

    @Sentence("by: -999 to 999; BAD_VALUE if by is out of range")
    static void raiseByLeastAndGreatest() {
        dueArray(changes(TropicRanks::new, "by 999", x -> x.raise(1, true, 0, 999), 999), 1, "999");
        dueArray(changes(having("999;999"), "by -999", x -> x.raise(0, false, 0, -999), 0), 0, "0;0");
        for (int by : new int[] {1000, -1000, 1001, -1001, LOWEST, HIGHEST}) {
            raiseFails(1, false, 1, by, BAD_VALUE);
        }
    }

    @Sentence("NO_SUCH if there is no such array")
    static void raiseNoArray() {
        for (int array : NO_ARRAYS) {
            raiseFails(array, true, 0, 1, NO_SUCH);
            raiseFails(array, false, 0, 1, NO_SUCH);
        }
    }

    @Sentence("NO_SUCH if there is no such row or column")
    static void raiseNoRowOrColumn() {
        for (int number : new int[] {-1, 2, LOWEST, HIGHEST}) {
            raiseFails(0, true, number, 1, NO_SUCH);
            raiseFails(0, false, number, 1, NO_SUCH);
        }
        raiseFails(1, true, 1, 1, NO_SUCH);
        raiseFails(1, false, 3, 1, NO_SUCH);
        dueArray(changes(Sheet::busy, "column 2 of one row", x -> x.raise(1, false, 2, 1), 8), 1, "5,0,8");
        dueArray(changes(having("1;2;3;4"), "row 3 of one column", x -> x.raise(0, true, 3, 1), 5), 0, "1;2;3;5");
        stays(having("1;2;3;4"), "column 1 of one column", x -> x.raise(0, false, 1, 1), NO_SUCH);
        stays(having("1;2;3;4"), "row 4 of four", x -> x.raise(0, true, 4, 1), NO_SUCH);
    }

    @Sentence("NOT_POSSIBLE if an entry would not be 0 to 999: the first, one within, or the last one below 0")
    static void raiseBelowLeast() {
        for (String text : new String[] {"1,2,2,2", "2,1,2,2", "2,2,1,2", "2,2,2,1"}) {
            changes(having(text), "to 0 " + text, x -> x.raise(0, true, 0, -1), 1);
            stays(having(text), "to -1 " + text, x -> x.raise(0, true, 0, -2), NOT_POSSIBLE);
            String turned = text.replace(',', ';');
            changes(having(turned), "to 0 " + turned, x -> x.raise(0, false, 0, -1), 1);
            stays(having(turned), "to -1 " + turned, x -> x.raise(0, false, 0, -2), NOT_POSSIBLE);
        }
        raiseFails(1, true, 0, -999, NOT_POSSIBLE);
    }

    @Sentence("NOT_POSSIBLE if an entry would not be 0 to 999: the first, one within, or the last one above 999")
    static void raiseAboveGreatest() {
        for (String text : new String[] {"998,0,7,1", "7,998,0,1", "7,0,998,1", "7,0,1,998"}) {
            changes(having(text), "to 999 " + text, x -> x.raise(0, true, 0, 1), 999);
            stays(having(text), "to 1000 " + text, x -> x.raise(0, true, 0, 2), NOT_POSSIBLE);
            String turned = text.replace(',', ';');
            changes(having(turned), "to 999 " + turned, x -> x.raise(0, false, 0, 1), 999);
            stays(having(turned), "to 1000 " + turned, x -> x.raise(0, false, 0, 2), NOT_POSSIBLE);
        }
        raiseFails(1, true, 0, 999, NOT_POSSIBLE);
        // Only the line that is raised matters.
        changes(having("999,0;0,998"), "beside a 999", x -> x.raise(0, true, 1, 1), 999);
        changes(having("0,5;9,5"), "beside a 0", x -> x.raise(0, false, 1, -5), 9);
    }

    @Sentence("The first error that applies: NO_SUCH, BAD_VALUE, NOT_POSSIBLE")
    static void raiseErrorsInOrder() {
        raiseFails(3, true, 0, 1000, NO_SUCH);
        raiseFails(0, true, 2, 1000, NO_SUCH);
        raiseFails(0, false, -1, -1000, NO_SUCH);
        raiseFails(0, true, 0, 1000, BAD_VALUE);
        raiseFails(0, false, 0, -1000, BAD_VALUE);
    }

    // ---- promise 5: exchange

    private static void exchangeFails(int array, boolean isRow, int number, int other, int error) {
        stays(Sheet::busy, "exchange " + array + " " + isRow + " " + number + " " + other,
                x -> x.exchange(array, isRow, number, other), error);
    }

    @Sentence("Exchanges two rows. Returns 1 if they are unlike")
    static void exchangeRows() {
        dueArrays(changes(Sheet::busy, "0 and 2", x -> x.exchange(2, true, 0, 2), 1), BUSY[0], BUSY[1],
                "1,9,9;9,9,1;9,1,9");
        dueArray(changes(Sheet::busy, "2 and 0", x -> x.exchange(2, true, 2, 0), 1), 2, "1,9,9;9,9,1;9,1,9");
        dueArray(changes(Sheet::busy, "1 and 2", x -> x.exchange(2, true, 1, 2), 1), 2, "9,1,9;1,9,9;9,9,1");
        dueArray(changes(having("1,2,3;4,5,6;7,8,9;0,0,0"), "0 and 3", x -> x.exchange(0, true, 0, 3), 1), 0,
                "0,0,0;4,5,6;7,8,9;1,2,3");
    }

    @Sentence("Exchanges two columns")
    static void exchangeColumns() {
        dueArrays(changes(Sheet::busy, "0 and 2", x -> x.exchange(2, false, 0, 2), 1), BUSY[0], BUSY[1],
                "9,1,9;1,9,9;9,9,1");
        dueArray(changes(Sheet::busy, "2 and 1", x -> x.exchange(2, false, 2, 1), 1), 2, "9,9,1;9,1,9;1,9,9");
        dueArray(changes(Sheet::busy, "of one row", x -> x.exchange(1, false, 0, 2), 1), 1, "7,0,5");
        dueArray(changes(having("1,2,3,4;5,6,7,8;9,0,0,0"), "0 and 3", x -> x.exchange(0, false, 3, 0), 1), 0,
                "4,2,3,1;8,6,7,5;0,0,0,9");
    }

    @Sentence("Returns 1 if they are unlike: in their first, or one within, or in their last entry alone")
    static void exchangeNearlyLike() {
        changes(having("0,5,5,5;1,5,5,5"), "first", x -> x.exchange(0, true, 0, 1), 1);
        changes(having("5,5,0,5;5,5,1,5"), "within", x -> x.exchange(0, true, 0, 1), 1);
        changes(having("5,5,5,0;5,5,5,1"), "last", x -> x.exchange(0, true, 0, 1), 1);
        changes(having("0,1;5,5;5,5;5,5"), "first", x -> x.exchange(0, false, 0, 1), 1);
        changes(having("5,5;5,5;0,1;5,5"), "within", x -> x.exchange(0, false, 0, 1), 1);
        changes(having("5,5;5,5;5,5;0,1"), "last", x -> x.exchange(0, false, 0, 1), 1);
    }

    @Sentence("otherwise 0; it is a change also if nothing is different then")
    static void exchangeLike() {
        dueArray(changes(having("1,2;3,4;1,2"), "rows", x -> x.exchange(0, true, 0, 2), 0), 0, "1,2;3,4;1,2");
        dueArray(changes(having("1,1,2;3,3,4"), "columns", x -> x.exchange(0, false, 1, 0), 0), 0, "1,1,2;3,3,4");
    }

    @Sentence("NO_SUCH if there is no such array")
    static void exchangeNoArray() {
        for (int array : NO_ARRAYS) {
            exchangeFails(array, true, 0, 1, NO_SUCH);
            exchangeFails(array, false, 0, 1, NO_SUCH);
        }
    }

    @Sentence("NO_SUCH if there is no such row or column")
    static void exchangeNoRowOrColumn() {
        for (int number : new int[] {-1, 2, LOWEST, HIGHEST}) {
            exchangeFails(0, true, number, 1, NO_SUCH);
            exchangeFails(0, true, 1, number, NO_SUCH);
            exchangeFails(0, false, number, 1, NO_SUCH);
            exchangeFails(0, false, 1, number, NO_SUCH);
        }
        exchangeFails(1, true, 0, 1, NO_SUCH);
        exchangeFails(1, false, 0, 3, NO_SUCH);
        stays(having("1;2;3;4"), "the only column", x -> x.exchange(0, false, 0, 1), NO_SUCH);
        stays(having("1;2;3;4"), "row 4", x -> x.exchange(0, true, 4, 3), NO_SUCH);
    }

    @Sentence("BAD_VALUE if both are the same")
    static void exchangeTheSame() {
        exchangeFails(0, true, 0, 0, BAD_VALUE);
        exchangeFails(0, true, 1, 1, BAD_VALUE);
        exchangeFails(2, false, 2, 2, BAD_VALUE);
        exchangeFails(1, true, 0, 0, BAD_VALUE);
    }

    @Sentence("The first error that applies: NO_SUCH, BAD_VALUE")
    static void exchangeErrorsInOrder() {
        exchangeFails(3, true, 0, 0, NO_SUCH);
        exchangeFails(0, true, 2, 2, NO_SUCH);
        exchangeFails(0, false, -1, -1, NO_SUCH);
    }

    // ---- promise 6: drop

    private static void dropFails(int array, boolean isRow, int number, int error) {
        stays(Sheet::busy, "drop " + array + " " + isRow + " " + number, x -> x.drop(array, isRow, number), error);
    }

    @Sentence("Drops a row: the first, one within, or the last one. Returns how many entries there are then")
    static void dropEachRow() {
        Supplier<TropicRanks> made = having("1,2,3;4,5,6;7,8,9;10,11,12", "5");
        dueArrays(changes(made, "row 0", x -> x.drop(0, true, 0), 9), "4,5,6;7,8,9;10,11,12", "5", "0");
        dueArray(changes(made, "row 1", x -> x.drop(0, true, 1), 9), 0, "1,2,3;7,8,9;10,11,12");
        dueArray(changes(made, "row 3", x -> x.drop(0, true, 3), 9), 0, "1,2,3;4,5,6;7,8,9");
        dueArray(changes(having("1,2,3,4;5,6,7,8;9,0,0,0"), "row 1", x -> x.drop(0, true, 1), 8), 0,
                "1,2,3,4;9,0,0,0");
    }

    @Sentence("or a column: the first, one within, or the last one")
    static void dropEachColumn() {
        Supplier<TropicRanks> made = having("1,2,3,4;5,6,7,8;9,10,11,12", "5");
        dueArrays(changes(made, "column 0", x -> x.drop(0, false, 0), 9), "2,3,4;6,7,8;10,11,12", "5", "0");
        dueArray(changes(made, "column 2", x -> x.drop(0, false, 2), 9), 0, "1,2,4;5,6,8;9,10,12");
        dueArray(changes(made, "column 3", x -> x.drop(0, false, 3), 9), 0, "1,2,3;5,6,7;9,10,11");
        dueArray(changes(Sheet::busy, "of one row", x -> x.drop(1, false, 1), 2), 1, "5,7");
    }

    @Sentence("what was dropped is not there any more")
    static void dropToTheLastEntry() {
        TropicRanks x = with("1,2;3,4");
        due("row", x.drop(0, true, 0), 2);
        due("entry of it", x.entry(0, 1, 0), NO_SUCH);
        due("it again", x.drop(0, true, 1), NO_SUCH);
        due("column", x.drop(0, false, 1), 1);
        due("entry of it", x.entry(0, 0, 1), NO_SUCH);
        dueArray(x, 0, "3");
        due("the only row", x.drop(0, true, 0), NOT_POSSIBLE);
        due("the only column", x.drop(0, false, 0), NOT_POSSIBLE);
        due("entries", x.count(0), 3);
        due("changes", x.count(2), 3);
    }

    @Sentence("NO_SUCH if there is no such array")
    static void dropNoArray() {
        for (int array : NO_ARRAYS) {
            dropFails(array, true, 0, NO_SUCH);
            dropFails(array, false, 0, NO_SUCH);
        }
    }

    @Sentence("NO_SUCH if there is no such row or column")
    static void dropNoRowOrColumn() {
        for (int number : new int[] {-1, 2, LOWEST, HIGHEST}) {
            dropFails(0, true, number, NO_SUCH);
            dropFails(0, false, number, NO_SUCH);
        }
        dropFails(2, true, 3, NO_SUCH);
        dropFails(1, false, 3, NO_SUCH);
    }

    @Sentence("NOT_POSSIBLE if it is the only one")
    static void dropTheOnlyOne() {
        dropFails(1, true, 0, NOT_POSSIBLE);
        stays(TropicRanks::new, "row of one entry", x -> x.drop(0, true, 0), NOT_POSSIBLE);
        stays(TropicRanks::new, "column of one entry", x -> x.drop(0, false, 0), NOT_POSSIBLE);
        stays(having("1;2;3;4"), "column of four rows", x -> x.drop(0, false, 0), NOT_POSSIBLE);
        stays(having("1,2,3,4"), "row of four columns", x -> x.drop(0, true, 0), NOT_POSSIBLE);
        dueArray(changes(having("1;2"), "one of two rows", x -> x.drop(0, true, 0), 1), 0, "2");
        dueArray(changes(having("1,2"), "one of two columns", x -> x.drop(0, false, 1), 1), 0, "1");
    }

    @Sentence("The first error that applies: NO_SUCH, NOT_POSSIBLE")
    static void dropErrorsInOrder() {
        dropFails(1, true, 1, NO_SUCH);
        dropFails(1, true, -1, NO_SUCH);
        stays(TropicRanks::new, "column 1 of one entry", x -> x.drop(0, false, 1), NO_SUCH);
        stays(TropicRanks::new, "row of no array", x -> x.drop(3, true, 0), NO_SUCH);
    }

    // ---- promise 7: turn

    @Sentence("Turns an array over: rows become columns. Returns how many rows there are then")
    static void turnEachForm() {
        dueArrays(changes(Sheet::busy, "2 by 2", x -> x.turn(0), 2), "6,3;2,4", BUSY[1], BUSY[2]);
        dueArray(changes(Sheet::busy, "1 by 3", x -> x.turn(1), 3), 1, "5;0;7");
        dueArray(changes(Sheet::busy, "3 by 3", x -> x.turn(2), 3), 2, "9,9,1;1,9,9;9,1,9");
        dueArray(changes(having("1,2,3,4"), "1 by 4", x -> x.turn(0), 4), 0, "1;2;3;4");
        dueArray(changes(having("1;2;3;4"), "4 by 1", x -> x.turn(0), 1), 0, "1,2,3,4");
        dueArray(changes(having("1,2,3,4;5,6,7,8;9,10,11,12"), "3 by 4", x -> x.turn(0), 4), 0,
                "1,5,9;2,6,10;3,7,11;4,8,12");
        dueArray(changes(having("1,2,3;4,5,6;7,8,9;10,11,12"), "4 by 3", x -> x.turn(0), 3), 0,
                "1,4,7,10;2,5,8,11;3,6,9,12");
        dueArray(changes(having("1,2;3,4;5,6"), "3 by 2", x -> x.turn(0), 2), 0, "1,3,5;2,4,6");
    }

    @Sentence("This is a change (also if nothing is different then)")
    static void turnOneEntry() {
        dueArray(changes(TropicRanks::new, "one entry", x -> x.turn(1), 1), 1, "0");
        dueArray(changes(having("1,2;2,1"), "the same turned over", x -> x.turn(0), 2), 0, "1,2;2,1");
    }

    @Sentence("NO_SUCH if there is no such array")
    static void turnNoArray() {
        for (int array : NO_ARRAYS) {
            stays(Sheet::busy, "turn " + array, x -> x.turn(array), NO_SUCH);
        }
    }

    // ---- promise 8: product

    private static void productFails(Supplier<TropicRanks> made, int first, int second, int to, int error) {
        stays(made, "product " + first + " " + second + " " + to, x -> x.product(first, second, to), error);
    }

    @Sentence("its entry (i, j) is the least of all sums of the entry (i, k) and the entry (k, j)")
    static void productByEachNumberOfSums() {
        dueArrays(changes(having("1;2", "10,20,30"), "one", x -> x.product(0, 1, 2), 6), "1;2", "10,20,30",
                "11,21,31;12,22,32");
        dueArray(changes(having("1,5;5,1", "0,3;3,0"), "two", x -> x.product(0, 1, 2), 4), 2, "1,4;4,1");
        dueArray(changes(having("9,9,0", "1;2;3"), "three, the last one", x -> x.product(0, 1, 2), 1), 2, "3");
        dueArray(changes(having("9,9,9,1;1,9,9,9", "5;6;7;8"), "four", x -> x.product(0, 1, 2), 2), 2, "9;6");
        dueArray(changes(having("9,9,1,9", "0,8,8;0,8,8;0,1,0;9,9,9"), "four", x -> x.product(0, 1, 2), 3), 2,
                "1,2,1");
    }

    @Sentence("has the rows of the first one and the columns of the second one; returns how many entries it has")
    static void productOfEachForm() {
        for (int rows = 1; rows <= 4; rows++) {
            for (int columns = 1; columns <= 4; columns++) {
                String first = "1;2;3;4".substring(0, 2 * rows - 1);
                String second = "10,20,30,40".substring(0, 3 * columns - 1);
                if (rows * columns > 12) {
                    productFails(having(first, second), 0, 1, 2, TOO_MANY);
                } else {
                    TropicRanks x = changes(having(first, second), rows + " by " + columns,
                            y -> y.product(0, 1, 2), rows * columns);
                    due("rows", x.arrayOf(2, 0), rows);
                    due("columns", x.arrayOf(2, 1), columns);
                    due("last entry", x.entry(2, rows - 1, columns - 1), rows + 10 * columns);
                }
            }
        }
    }

    @Sentence("(they may be the same) in place of a third one (it may be one of them)")
    static void productInPlaceOfOneOfThem() {
        Supplier<TropicRanks> made = having("1,9;4,2", "0,7;3,0");
        dueArrays(changes(made, "third", x -> x.product(0, 1, 2), 4), "1,9;4,2", "0,7;3,0", "1,8;4,2");
        dueArrays(changes(made, "first", x -> x.product(0, 1, 0), 4), "1,8;4,2", "0,7;3,0", "0");
        dueArrays(changes(made, "second", x -> x.product(0, 1, 1), 4), "1,9;4,2", "1,8;4,2", "0");
        dueArrays(changes(made, "the same", x -> x.product(0, 0, 2), 4), "1,9;4,2", "0,7;3,0", "2,10;5,4");
        dueArrays(changes(made, "all three", x -> x.product(0, 0, 0), 4), "2,10;5,4", "0,7;3,0", "0");
        dueArrays(changes(made, "the other way round", x -> x.product(1, 0, 2), 4), "1,9;4,2", "0,7;3,0", "1,9;4,2");
    }

    @Sentence("in place of a third one, whatever form that had")
    static void productInPlaceOfAnotherForm() {
        dueArrays(changes(having("1,2", "3;4", "1,2,3,4;1,2,3,4;1,2,3,4"), "a small one",
                x -> x.product(0, 1, 2), 1), "1,2", "3;4", "4");
        dueArrays(changes(having("1;2;3;4", "0,0,0"), "a great one", x -> x.product(0, 1, 1), 12), "1;2;3;4",
                "1,1,1;2,2,2;3,3,3;4,4,4", "0");
    }

    @Sentence("This is a change (also if nothing is different then)")
    static void productThatIsTheSame() {
        dueArrays(changes(having("0,5;5,0"), "itself", x -> x.product(0, 0, 0), 4), "0,5;5,0", "0", "0");
    }

    @Sentence("NO_SUCH if there is no such array: first, second, or third")
    static void productNoArray() {
        for (int array : NO_ARRAYS) {
            productFails(Sheet::busy, array, 0, 0, NO_SUCH);
            productFails(Sheet::busy, 0, array, 0, NO_SUCH);
            productFails(Sheet::busy, 0, 0, array, NO_SUCH);
        }
    }

    @Sentence("NOT_POSSIBLE if the first one has not as many columns as the second one has rows")
    static void productOfFormsThatDoNotFit() {
        productFails(Sheet::busy, 0, 2, 1, NOT_POSSIBLE);
        productFails(Sheet::busy, 2, 0, 1, NOT_POSSIBLE);
        productFails(Sheet::busy, 1, 1, 1, NOT_POSSIBLE);
        productFails(Sheet::busy, 2, 1, 1, NOT_POSSIBLE);
        changes(Sheet::busy, "1 by 3, 3 by 3", x -> x.product(1, 2, 0), 3);
        productFails(Sheet::full, 0, 0, 2, NOT_POSSIBLE);
        productFails(Sheet::full, 1, 1, 2, NOT_POSSIBLE);
    }

    @Sentence("TOO_MANY if it would have more than 12 entries")
    static void productOfSixteenEntries() {
        productFails(having("1,2,3;1,2,3;1,2,3;1,2,3", "1,2,3,4;1,2,3,4;1,2,3,4"), 0, 1, 2, TOO_MANY);
        productFails(having("1,2;1,2;1,2;1,2", "1,2,3,4;1,2,3,4"), 0, 1, 2, TOO_MANY);
        changes(having("1,2;1,2;1,2;1,2", "1,2,3;1,2,3"), "12 entries", x -> x.product(0, 1, 2), 12);
        changes(having("1,2;1,2;1,2", "1,2,3,4;1,2,3,4"), "12 entries", x -> x.product(0, 1, 2), 12);
        changes(having("1,2,3;1,2,3;1,2,3;1,2,3", "1,2,3,4;1,2,3,4;1,2,3,4"), "9 entries",
                x -> x.product(1, 0, 2), 9);
    }

    @Sentence("TOO_MANY if it would have an entry above 999: the first, one within, or the last one")
    static void productAboveGreatest() {
        dueArray(changes(having("500", "499"), "999", x -> x.product(0, 1, 2), 1), 2, "999");
        productFails(having("500", "500"), 0, 1, 2, TOO_MANY);
        productFails(having("999", "999"), 0, 1, 0, TOO_MANY);
        productFails(having("500;1;1", "500,1,1"), 0, 1, 2, TOO_MANY);
        productFails(having("1;500;1", "1,500,1"), 0, 1, 2, TOO_MANY);
        productFails(having("1;1;500", "1,1,500"), 0, 1, 2, TOO_MANY);
        dueArray(changes(having("999,0", "999;999"), "the least sum counts", x -> x.product(0, 1, 2), 1), 2, "999");
        productFails(having("999,1", "999;999"), 0, 1, 2, TOO_MANY);
    }

    @Sentence("The first error that applies: NO_SUCH, NOT_POSSIBLE, TOO_MANY")
    static void productErrorsInOrder() {
        productFails(having("1,2;1,2", "1"), 0, 1, 3, NO_SUCH);
        productFails(having("999", "999"), 0, 1, -1, NO_SUCH);
        productFails(having("1;2;3;4", "1,2,3,4"), 0, 1, 3, NO_SUCH);
        productFails(having("1,2;1,2;1,2;1,2", "1,2,3,4"), 0, 1, 2, NOT_POSSIBLE);
        productFails(having("999,999", "999"), 0, 1, 2, NOT_POSSIBLE);
    }

    // ---- promise 9: close

    @Sentence("Makes each entry the least sum along a row of steps. Returns how many entries are less then")
    static void closeOverOthers() {
        dueArrays(changes(Sheet::busy, "all over others", x -> x.close(2), 6), BUSY[0], BUSY[1],
                "3,1,2;2,3,1;1,2,3");
        dueArray(changes(having("0,5,999;7,3,4;1,100,2"), "some", x -> x.close(0), 3), 0, "0,5,9;5,3,4;1,6,2");
        dueArray(changes(having("9,1;1,9"), "back to itself", x -> x.close(0), 2), 0, "2,1;1,2");
        dueArray(changes(having("5,1;2,0"), "over a step to itself", x -> x.close(0), 1), 0, "3,1;2,0");
    }

    @Sentence("and so on up to (m, j): a row of steps over one more number than another")
    static void closeOverTwoNumbers() {
        dueArray(changes(having("9,100,1;9,9,9;9,1,9"), "0, 2, 1", x -> x.close(0), 1), 0, "9,2,1;9,9,9;9,1,9");
        dueArray(changes(having("999,1,999;999,999,1;999,999,999"), "0, 1, 2", x -> x.close(0), 1), 0,
                "999,1,2;999,999,1;999,999,999");
        dueArray(changes(having("50,50,1;1,50,50;50,1,50"), "0, 2, 1, 0", x -> x.close(0), 6), 0,
                "3,2,1;1,3,2;2,1,3");
    }

    @Sentence("the least of the entry (i, j), and all sums: not of nothing, also from a number to itself")
    static void closeKeepsWhatIsLeast() {
        dueArray(changes(having("7,7;7,7"), "nothing is less", x -> x.close(0), 0), 0, "7,7;7,7");
        dueArray(changes(having("5,2;3,9"), "as much over the other", x -> x.close(0), 1), 0, "5,2;3,5");
        dueArray(changes(having("999,999;999,999"), "the greatest", x -> x.close(0), 0), 0, "999,999;999,999");
        dueArray(changes(having("0,0,0;0,0,0;0,0,0"), "the least", x -> x.close(0), 0), 0, "0,0,0;0,0,0;0,0,0");
    }

    @Sentence("This is a change (also if nothing is different then)")
    static void closeOneEntry() {
        dueArray(changes(TropicRanks::new, "one entry of 0", x -> x.close(2), 0), 2, "0");
        dueArray(changes(having("8"), "one entry", x -> x.close(0), 0), 0, "8");
        TropicRanks x = busy();
        due("close", x.close(2), 6);
        due("close again", x.close(2), 0);
        due("changes", x.count(2), 6);
    }

    @Sentence("NO_SUCH if there is no such array")
    static void closeNoArray() {
        for (int array : NO_ARRAYS) {
            stays(Sheet::busy, "close " + array, x -> x.close(array), NO_SUCH);
        }
    }

    @Sentence("NOT_POSSIBLE if it has not as many rows as columns")
    static void closeWhatIsNoSquare() {
        stays(Sheet::busy, "close 1 by 3", x -> x.close(1), NOT_POSSIBLE);
        for (String text : new String[] {"1,2", "1;2", "1,2,3;4,5,6", "1,2;3,4;5,6", "1;2;3;4", "1,2,3,4"}) {
            stays(having(text), "close " + text, x -> x.close(0), NOT_POSSIBLE);
        }
        stays(Sheet::full, "close 3 by 4", x -> x.close(0), NOT_POSSIBLE);
        stays(Sheet::full, "close 4 by 3", x -> x.close(1), NOT_POSSIBLE);
    }
}
