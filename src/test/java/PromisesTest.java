/** For each promise of the document: what it asks, its edges, and its errors in their order. */
public final class PromisesTest extends Sheet {
    public static void main(String[] args) {
        constants();
        promise1New();
        promise2Load();
        promise2LoadErrors();
        promise3Set();
        promise4Raise();
        promise5Exchange();
        promise6Drop();
        promise7Turn();
        promise8Product();
        promise8ProductErrors();
        promise9Close();
        promise10Entry();
        promise11Permanent();
        promise12ByParts();
        promise13CanTouch();
        promise14ByCovers();
        promise15Cover();
        promise16Cone();
        promise17Factor();
        promise18ByCone();
        promise19ArrayOf();
        promise20Ring();
        promise21Count();
        promise22IfSet();
        promise23BestZero();
        promise24Put();
        promise25Wipe();
        promise26Fault();
        promise27Undo();
        promise28Save();
        promise29Restore();
        end();
    }

    private static void constants() {
        due("NO_SUCH", TropicRanks.NO_SUCH, -1);
        due("BAD_VALUE", TropicRanks.BAD_VALUE, -2);
        due("BAD_TEXT", TropicRanks.BAD_TEXT, -3);
        due("TOO_MANY", TropicRanks.TOO_MANY, -4);
        due("NOT_POSSIBLE", TropicRanks.NOT_POSSIBLE, -5);
        due("NONE", TropicRanks.NONE, -6);
    }

    private static void promise1New() {
        TropicRanks x = new TropicRanks();
        for (int array = 0; array < 3; array++) {
            dueArray(x, array, "0");
        }
        due("entries", x.count(0), 3);
        due("pad", x.count(1), 0);
        due("changes", x.count(2), 0);
        due("undo", x.undo(), NOT_POSSIBLE);
        due("restore 0", x.restore(0), NOT_POSSIBLE);
        due("restore 1", x.restore(1), NOT_POSSIBLE);
    }

    private static void promise2Load() {
        TropicRanks x = with("1,2;3,4");
        dueArray(x, 0, "1,2;3,4");
        dueArray(x, 1, "0");
        due("pad is empty then", x.count(1), 0);
        due("a change", x.count(2), 1);
        write(x, "999");
        due("load 2", x.load(2), 1);
        dueArray(x, 2, "999");
        due("undo", x.undo(), 1);
        dueArray(x, 2, "0");
        due("the pad stays empty", x.count(1), 0);
        dueArray(with("0,10,999,5;1,2,3,4;9,8,7,6"), 0, "0,10,999,5;1,2,3,4;9,8,7,6");
        dueArray(with("1,2,3;4,5,6;7,8,9;100,110,120"), 0, "1,2,3;4,5,6;7,8,9;100,110,120");
        dueArray(with("1;2;3;4"), 0, "1;2;3;4");
        dueArray(with("1,2,3,4"), 0, "1,2,3,4");
    }

    private static void loadErrs(String text, int array, int error) {
        TropicRanks x = new TropicRanks();
        write(x, text);
        due("load " + text, x.load(array), error);
        due("the pad stays", x.count(1), text.length());
        due("no change", x.count(2), 0);
        due("no entry more", x.count(0), 3);
    }

    private static void promise2LoadErrors() {
        loadErrs("", 3, NO_SUCH);
        loadErrs("", -1, NO_SUCH);
        loadErrs("1", LOWEST, NO_SUCH);
        loadErrs("1", HIGHEST, NO_SUCH);
        loadErrs("", 0, BAD_TEXT);
        loadErrs("1,", 0, BAD_TEXT);
        loadErrs("1;2;3;4;5;", 0, BAD_TEXT);
        loadErrs("01", 0, BAD_TEXT);
        loadErrs("1000", 0, BAD_TEXT);
        loadErrs("1;2;3;4;5", 0, TOO_MANY);
        loadErrs("1,2,3,4,5", 0, TOO_MANY);
        loadErrs("1;1,2,3,4,5", 0, TOO_MANY);
        loadErrs("1,2,3,4;1,2,3,4;1,2,3,4;1", 0, TOO_MANY);
        loadErrs("1,2,3,4;1,2,3,4;1,2,3,4;1,2,3,4", 0, TOO_MANY);
        loadErrs("1,2;1;1;1;1", 0, TOO_MANY);
        loadErrs("0,".repeat(39) + "0", 0, TOO_MANY);
        loadErrs("0;".repeat(39) + "0", 0, TOO_MANY);
        loadErrs("1,2;3", 0, BAD_VALUE);
        loadErrs("3;1,2", 0, BAD_VALUE);
        loadErrs("1,2,3,4;1,2,3,4;1,2,3;1", 0, BAD_VALUE);
        loadErrs("1,2;3,4;5;6,7", 0, BAD_VALUE);
    }

    private static void promise3Set() {
        TropicRanks x = with("1,2,3;4,5,6");
        due("set", x.set(0, 1, 2, 999), 6);
        due("set", x.set(0, 0, 1, 0), 2);
        dueArray(x, 0, "1,0,3;4,5,999");
        due("a change", x.count(2), 3);
        due("set the same", x.set(0, 0, 1, 0), 0);
        due("also a change", x.count(2), 4);
        due("set 3", x.set(3, 0, 0, 1000), NO_SUCH);
        due("set -1", x.set(-1, 0, 0, 0), NO_SUCH);
        due("no row", x.set(0, 2, 0, 1000), NO_SUCH);
        due("no row", x.set(0, -1, 0, 0), NO_SUCH);
        due("no column", x.set(0, 0, 3, -1), NO_SUCH);
        due("no column", x.set(0, 0, -1, 0), NO_SUCH);
        due("no column", x.set(0, 0, LOWEST, 0), NO_SUCH);
        due("no row", x.set(0, HIGHEST, 0, 0), NO_SUCH);
        due("value", x.set(0, 0, 0, 1000), BAD_VALUE);
        due("value", x.set(0, 0, 0, -1), BAD_VALUE);
        due("no change", x.count(2), 4);
        dueArray(x, 0, "1,0,3;4,5,999");
    }

    private static void promise4Raise() {
        TropicRanks x = with("1,2,3;4,5,6");
        due("raise a row", x.raise(0, true, 0, 10), 13);
        dueArray(x, 0, "11,12,13;4,5,6");
        due("raise a column", x.raise(0, false, 2, -6), 12);
        dueArray(x, 0, "11,12,7;4,5,0");
        due("raise by nothing", x.raise(0, true, 1, 0), 12);
        due("also a change", x.count(2), 4);
        due("to 999", x.raise(0, false, 1, 987), 999);
        dueArray(x, 0, "11,999,7;4,992,0");
        due("no array", x.raise(3, true, 0, 1000), NO_SUCH);
        due("no row", x.raise(0, true, 2, 1000), NO_SUCH);
        due("a column, but no row", x.raise(0, true, -1, 0), NO_SUCH);
        due("no column", x.raise(0, false, 3, -1000), NO_SUCH);
        due("a column", x.raise(0, false, 2, 1), 999);
        due("by", x.raise(0, true, 0, 1000), BAD_VALUE);
        due("by", x.raise(0, true, 0, -1000), BAD_VALUE);
        due("by", x.raise(0, true, 0, LOWEST), BAD_VALUE);
        due("by", x.raise(0, true, 0, HIGHEST), BAD_VALUE);
        due("above 999", x.raise(0, true, 0, 1), NOT_POSSIBLE);
        due("below 0", x.raise(0, false, 2, -2), NOT_POSSIBLE);
        dueArray(x, 0, "11,999,8;4,992,1");
        due("no change", x.count(2), 6);
        due("only the first one below 0", with("0,5").raise(0, true, 0, -1), NOT_POSSIBLE);
        due("only the last one above 999", with("0;999").raise(0, false, 0, 1), NOT_POSSIBLE);
        TropicRanks y = new TropicRanks();
        due("by 999", y.raise(2, true, 0, 999), 999);
        due("by -999", y.raise(2, false, 0, -999), 0);
    }

    private static void promise5Exchange() {
        TropicRanks x = with("1,2,3;4,5,6;1,2,3");
        due("rows", x.exchange(0, true, 0, 1), 1);
        dueArray(x, 0, "4,5,6;1,2,3;1,2,3");
        due("like rows", x.exchange(0, true, 2, 1), 0);
        due("also a change", x.count(2), 3);
        due("columns", x.exchange(0, false, 2, 0), 1);
        dueArray(x, 0, "6,5,4;3,2,1;3,2,1");
        due("no array", x.exchange(3, true, 0, 0), NO_SUCH);
        due("no row", x.exchange(0, true, 3, 3), NO_SUCH);
        due("no row", x.exchange(0, true, 0, 3), NO_SUCH);
        due("no column", x.exchange(0, false, -1, -1), NO_SUCH);
        due("no column", x.exchange(0, false, 1, -1), NO_SUCH);
        due("the same", x.exchange(0, false, 1, 1), BAD_VALUE);
        due("no change", x.count(2), 4);
        TropicRanks z = with("1,2,3,4;5,6,7,8", "1,2;3,4;5,6;5,7", "0,0,0,0;0,0,0,1");
        due("long rows", z.exchange(0, true, 0, 1), 1);
        dueArray(z, 0, "5,6,7,8;1,2,3,4");
        due("long columns", z.exchange(1, false, 1, 0), 1);
        dueArray(z, 1, "2,1;4,3;6,5;7,5");
        due("unlike at the end alone", z.exchange(2, true, 1, 0), 1);
        TropicRanks y = with("1,2,3");
        due("one row", y.exchange(0, true, 0, 1), NO_SUCH);
        due("three columns", y.exchange(0, false, 0, 2), 1);
        dueArray(y, 0, "3,2,1");
    }

    private static void promise6Drop() {
        TropicRanks x = with("1,2,3;4,5,6;7,8,9");
        due("a row", x.drop(0, true, 1), 6);
        dueArray(x, 0, "1,2,3;7,8,9");
        due("a column", x.drop(0, false, 0), 4);
        dueArray(x, 0, "2,3;8,9");
        due("a column", x.drop(0, false, 1), 2);
        dueArray(x, 0, "2;8");
        due("no array", x.drop(3, true, 0), NO_SUCH);
        due("no row", x.drop(0, true, 2), NO_SUCH);
        due("no column", x.drop(0, false, 1), NO_SUCH);
        due("no column", x.drop(0, false, -1), NO_SUCH);
        due("the only column", x.drop(0, false, 0), NOT_POSSIBLE);
        due("a row", x.drop(0, true, 0), 1);
        due("the only row", x.drop(0, true, 0), NOT_POSSIBLE);
        dueArray(x, 0, "8");
        due("changes", x.count(2), 5);
        due("undo", x.undo(), 4);
        dueArray(x, 0, "2;8");
    }

    private static void promise7Turn() {
        TropicRanks x = with("1,2,3;4,5,6");
        due("turn", x.turn(0), 3);
        dueArray(x, 0, "1,4;2,5;3,6");
        due("turn back", x.turn(0), 2);
        dueArray(x, 0, "1,2,3;4,5,6");
        due("one entry", x.turn(2), 1);
        due("changes", x.count(2), 4);
        due("no array", x.turn(3), NO_SUCH);
        due("no array", x.turn(-1), NO_SUCH);
        dueArray(with("1,2,3,4"), 0, "1,2,3,4");
        TropicRanks y = with("1,2,3,4;5,6,7,8;9,10,11,12");
        due("turn", y.turn(0), 4);
        dueArray(y, 0, "1,5,9;2,6,10;3,7,11;4,8,12");
    }

    private static void promise8Product() {
        TropicRanks x = with("1,2;3,4", "0,5;1,1");
        due("product", x.product(0, 1, 2), 4);
        dueArray(x, 2, "1,3;3,5");
        dueArray(x, 0, "1,2;3,4");
        dueArray(x, 1, "0,5;1,1");
        due("in place of the first", x.product(0, 1, 0), 4);
        dueArray(x, 0, "1,3;3,5");
        due("with itself", x.product(1, 1, 1), 4);
        dueArray(x, 1, "0,5;1,2");
        due("changes", x.count(2), 5);
        TropicRanks y = with("1;2;3;4", "10,20,30");
        due("4 by 3", y.product(0, 1, 1), 12);
        dueArray(y, 1, "11,21,31;12,22,32;13,23,33;14,24,34");
        TropicRanks z = with("500,999,999;499,0,7", "499;999;900");
        due("999 is fine", z.product(0, 1, 2), 2);
        dueArray(z, 2, "999;907");
    }

    private static void promise8ProductErrors() {
        TropicRanks x = with("1,2,3;4,5,6;7,8,9;9,9,9", "1,2,3,4;5,6,7,8;9,9,9,9", "500;600");
        due("no first", x.product(3, 0, 0), NO_SUCH);
        due("no second", x.product(0, -1, 0), NO_SUCH);
        due("no to", x.product(0, 0, 3), NO_SUCH);
        due("no to", x.product(0, 0, LOWEST), NO_SUCH);
        due("columns and rows", x.product(0, 0, 1), NOT_POSSIBLE);
        due("columns and rows", x.product(2, 0, 1), NOT_POSSIBLE);
        due("16 entries", x.product(0, 1, 2), TOO_MANY);
        due("9 entries", x.product(1, 0, 2), 9);
        TropicRanks y = with("500,501", "500;600");
        due("1000", y.product(0, 1, 0), TOO_MANY);
        due("no change", y.count(2), 2);
        dueArray(y, 0, "500,501");
    }

    private static void promise9Close() {
        TropicRanks x = with("9,1,9;9,9,1;1,9,9");
        due("close", x.close(0), 6);
        dueArray(x, 0, "3,1,2;2,3,1;1,2,3");
        due("close again", x.close(0), 0);
        due("also a change", x.count(2), 3);
        TropicRanks y = with("9,1;1,9", "1,2");
        due("to itself over the other", y.close(0), 2);
        dueArray(y, 0, "2,1;1,2");
        due("no array", y.close(3), NO_SUCH);
        due("no array", y.close(-1), NO_SUCH);
        due("no square", y.close(1), NOT_POSSIBLE);
        due("one entry", y.close(2), 0);
        due("changes", y.count(2), 4);
        TropicRanks z = with("0,5,999;7,3,4;1,100,2");
        due("over two", z.close(0), 3);
        dueArray(z, 0, "0,5,9;5,3,4;1,6,2");
    }

    private static void promise10Entry() {
        TropicRanks x = with("1,2,3;4,5,6");
        due("entry", x.entry(0, 1, 0), 4);
        due("entry", x.entry(0, 0, 2), 3);
        due("entry of another", x.entry(1, 0, 0), 0);
        due("no array", x.entry(3, 0, 0), NO_SUCH);
        due("no array", x.entry(-1, 0, 0), NO_SUCH);
        due("no row", x.entry(0, 2, 0), NO_SUCH);
        due("no row", x.entry(0, -1, 2), NO_SUCH);
        due("no column", x.entry(0, 0, 3), NO_SUCH);
        due("no column", x.entry(0, 1, -1), NO_SUCH);
        due("no column", x.entry(0, HIGHEST, LOWEST), NO_SUCH);
        due("no change", x.count(2), 1);
    }

    private static void promise11Permanent() {
        TropicRanks x = with("1,2,4;3,4,1;0,7,5;1,1,1");
        due("one entry", x.permanent(0, 4, 2, 0), 7);
        due("one way", x.permanent(0, 4, 2, 1), 1);
        due("two ways", x.permanent(0, 3, 3, 1), 2);
        due("their sum", x.permanent(0, 3, 3, 0), 5);
        due("rows 0 and 2, columns 1 and 2", x.permanent(0, 5, 6, 0), 7);
        due("the greatest", x.permanent(0, 5, 6, 2), 11);
        due("three", x.permanent(0, 7, 7, 0), 3);
        due("three", x.permanent(0, 7, 7, 1), 1);
        due("three", x.permanent(0, 7, 7, 2), 14);
        due("three rows, the last one too", x.permanent(0, 13, 7, 0), 3);
        due("all six ways", with("5,5,5;5,5,5;5,5,5").permanent(0, 7, 7, 1), 6);
        due("the second way is the greatest", with("0,1;9,0").permanent(0, 3, 3, 2), 10);
        due("the second way is the least", with("5,1;1,5").permanent(0, 3, 3, 0), 2);
        due("the first way is the greatest", with("9,1;1,9").permanent(0, 3, 3, 2), 18);
        due("no array", x.permanent(3, 0, 0, 3), NO_SUCH);
        due("no rows", x.permanent(0, 0, 0, 0), BAD_VALUE);
        due("no columns", x.permanent(0, 1, 0, 0), BAD_VALUE);
        due("below 0", x.permanent(0, -1, 7, 0), BAD_VALUE);
        due("below 0", x.permanent(0, 1, LOWEST, 0), BAD_VALUE);
        due("no such row", x.permanent(0, 16, 1, 0), BAD_VALUE);
        due("no such column", x.permanent(0, 1, 8, 0), BAD_VALUE);
        due("not as many", x.permanent(0, 3, 7, 0), BAD_VALUE);
        due("not as many", x.permanent(0, 15, 7, 0), BAD_VALUE);
        due("what", x.permanent(0, 1, 1, 3), BAD_VALUE);
        due("what", x.permanent(0, 1, 1, -1), BAD_VALUE);
    }

    private static void promise12ByParts() {
        TropicRanks x = with("1,2;3,4", "0,1;1,0", "5,5;5,5;5,6");
        due("rank", x.byParts(0, 0), 1);
        due("rows", x.byParts(0, 1), 1);
        due("columns", x.byParts(0, 2), 1);
        due("regular", x.byParts(0, 3), 4);
        due("rank", x.byParts(1, 0), 2);
        due("rows", x.byParts(1, 1), 3);
        due("columns", x.byParts(1, 2), 3);
        due("regular", x.byParts(1, 3), 5);
        due("rank", x.byParts(2, 0), 2);
        due("the least rows", x.byParts(2, 1), 5);
        due("columns", x.byParts(2, 2), 3);
        due("regular", x.byParts(2, 3), 8);
        due("no array", x.byParts(3, 4), NO_SUCH);
        due("what", x.byParts(0, 4), BAD_VALUE);
        due("what", x.byParts(0, -1), BAD_VALUE);
        TropicRanks y = with("5,5,5;5,5,6");
        due("the least rows", y.byParts(0, 1), 3);
        due("the least columns", y.byParts(0, 2), 5);
        TropicRanks z = with("0,1,1,1;1,0,1,1;1,1,0,1");
        due("three", z.byParts(0, 0), 3);
        due("the least columns", z.byParts(0, 2), 7);
        TropicRanks one = with("7,7,7,7");
        due("one row", one.byParts(0, 0), 1);
        due("one row", one.byParts(0, 3), 4);
    }

    private static void promise13CanTouch() {
        TropicRanks x = with("0,1;1,0", "1,2;3,4");
        due("none", x.canTouch(0, 0), 1);
        due("one", x.canTouch(0, 8), 1);
        due("the greater way", x.canTouch(0, 6), 1);
        due("the lesser way", x.canTouch(0, 9), 0);
        due("more than that", x.canTouch(0, 11), 0);
        due("three", x.canTouch(0, 7), 1);
        due("all", x.canTouch(0, 15), 0);
        due("all", x.canTouch(1, 15), 1);
        due("no array", x.canTouch(3, -1), NO_SUCH);
        due("below 0", x.canTouch(0, -1), BAD_VALUE);
        due("below 0", x.canTouch(0, LOWEST), BAD_VALUE);
        due("no such place", x.canTouch(0, 16), BAD_VALUE);
        due("no such place", x.canTouch(2, 2), BAD_VALUE);
        due("no such place", x.canTouch(0, HIGHEST), BAD_VALUE);
        // Each two of these places can be touched, but not all three.
        TropicRanks y = with("2,0,3;3,2,0;0,3,2");
        due("pairs", y.canTouch(0, 17) * y.canTouch(0, 257) * y.canTouch(0, 272), 1);
        due("three", y.canTouch(0, 273), 0);
        TropicRanks z = with("0,0,0,0;0,0,0,0;0,0,0,0");
        due("all twelve", z.canTouch(0, 4095), 1);
        due("no such place", z.canTouch(0, 4096), BAD_VALUE);
    }

    private static void promise14ByCovers() {
        TropicRanks x = with("0,1;1,0", "1,2;3,4", "0,9,9;9,0,9;9,9,0");
        due("rank", x.byCovers(0, 0), 2);
        due("sets", x.byCovers(0, 1), 12);
        due("greatest", x.byCovers(0, 2), 3);
        due("rank", x.byCovers(1, 0), 1);
        due("sets", x.byCovers(1, 1), 16);
        due("greatest", x.byCovers(1, 2), 4);
        due("rank", x.byCovers(2, 0), 3);
        due("no array", x.byCovers(3, 3), NO_SUCH);
        due("what", x.byCovers(0, 3), BAD_VALUE);
        due("what", x.byCovers(0, -1), BAD_VALUE);
        TropicRanks y = with("0,0,0,0;0,0,0,0;0,0,0,0", "7", "3,1,4,1");
        due("sets", y.byCovers(0, 1), 4096);
        due("greatest", y.byCovers(0, 2), 12);
        due("sets", y.byCovers(1, 1), 2);
        due("greatest", y.byCovers(1, 2), 1);
        due("sets of six places", with("0,1,0;1,0,0").byCovers(0, 1), 32);
        due("one row", y.byCovers(2, 0), 1);
        due("one row", y.byCovers(2, 1), 16);
    }

    private static void promise15Cover() {
        TropicRanks x = with("0,1;1,0", "1,2;3,4", "0,9,9;9,0,9;9,9,0");
        int[] first = {0, 0, 0, 1};
        for (int place = 0; place < 4; place++) {
            due("cover " + place, x.cover(0, place), first[place]);
            due("cover " + place, x.cover(1, place), 0);
        }
        int[] third = {0, 0, 0, 0, 1, 1, 0, 1, 2};
        for (int place = 0; place < 9; place++) {
            due("cover " + place, x.cover(2, place), third[place]);
        }
        due("no array", x.cover(3, 0), NO_SUCH);
        due("no place", x.cover(0, 4), NO_SUCH);
        due("no place", x.cover(0, -1), NO_SUCH);
        due("no place", x.cover(2, HIGHEST), NO_SUCH);
    }

    private static void promise16Cone() {
        TropicRanks x = with("0,1;1,0", "1,2;3,4", "4,1,5;2,6,3");
        due("not the least", x.cone(0, 0, 2, 0), 0);
        due("rows", x.cone(0, 0, 2, 1), 1);
        due("comes from it", x.cone(1, 0, 2, 0), 1);
        due("rows", x.cone(1, 0, 2, 1), 0);
        due("of none", x.cone(1, 0, 0, 0), 0);
        due("all rows", x.cone(1, 0, 0, 1), 3);
        due("of two", x.cone(2, 0, 6, 0), 1);
        due("of one", x.cone(2, 0, 2, 1), 2);
        due("of the other", x.cone(2, 0, 4, 0), 1);
        due("of the first", x.cone(1, 1, 1, 0), 1);
        due("of the first, but not everywhere", x.cone(2, 1, 1, 1), 1);
        due("no array", x.cone(3, 0, -1, 2), NO_SUCH);
        due("no column", x.cone(0, 2, -1, 2), NO_SUCH);
        due("no column", x.cone(0, -1, 0, 0), NO_SUCH);
        due("no column", x.cone(0, LOWEST, 0, 0), NO_SUCH);
        due("below 0", x.cone(0, 0, -2, 0), BAD_VALUE);
        due("itself", x.cone(0, 0, 1, 0), BAD_VALUE);
        due("itself", x.cone(2, 1, 7, 0), BAD_VALUE);
        due("no such", x.cone(0, 0, 4, 0), BAD_VALUE);
        due("what", x.cone(0, 0, 2, 2), BAD_VALUE);
        due("what", x.cone(0, 0, 2, -1), BAD_VALUE);
    }

    private static void promise17Factor() {
        TropicRanks x = with("0,1;1,0", "1,2;3,4", "0,999;0,999");
        due("factor", x.factor(0, 0, 1), 1001);
        due("factor", x.factor(1, 0, 1), 999);
        due("factor", x.factor(1, 1, 0), 1001);
        due("least", x.factor(2, 0, 1), 1);
        due("greatest", x.factor(2, 1, 0), 1999);
        due("no array", x.factor(3, 0, 0), NO_SUCH);
        due("no column", x.factor(0, 2, 2), NO_SUCH);
        due("no k", x.factor(0, 0, 2), NO_SUCH);
        due("no k", x.factor(0, 0, -1), NO_SUCH);
        due("the same", x.factor(0, 1, 1), BAD_VALUE);
    }

    private static void promise18ByCone() {
        TropicRanks x = with("1,2;3,4", "0,1;1,0", "0,0,0,0;0,1,2,3;9,4,1,0");
        due("columns", x.byCone(0, false, 0), 1);
        due("the first one goes", x.byCone(0, false, 1), 2);
        due("rows", x.byCone(0, true, 0), 1);
        due("the first one goes", x.byCone(0, true, 1), 2);
        due("columns", x.byCone(1, false, 0), 2);
        due("columns", x.byCone(1, false, 1), 3);
        due("four columns", x.byCone(2, false, 0), 4);
        due("of three rows", x.byCone(2, true, 0), 3);
        due("three rows", x.byCone(2, true, 1), 7);
        due("no array", x.byCone(3, true, 2), NO_SUCH);
        due("what", x.byCone(0, true, 2), BAD_VALUE);
        due("what", x.byCone(0, false, -1), BAD_VALUE);
        TropicRanks y = with("5", "3;3;3");
        due("one column stays", y.byCone(0, false, 1), 1);
        due("the last row stays", y.byCone(1, true, 1), 4);
        due("nothing changes", x.entry(2, 2, 1), 4);
    }

    private static void promise19ArrayOf() {
        TropicRanks x = with("7,3,7;12,3,999");
        due("rows", x.arrayOf(0, 0), 2);
        due("columns", x.arrayOf(0, 1), 3);
        due("greatest", x.arrayOf(0, 2), 999);
        due("least", x.arrayOf(0, 3), 3);
        due("unlike", x.arrayOf(0, 4), 4);
        due("unlike", x.arrayOf(1, 4), 1);
        due("least at place 1", with("7,3").arrayOf(0, 3), 3);
        due("greatest at place 1", with("3,7").arrayOf(0, 2), 7);
        due("no array", x.arrayOf(3, 5), NO_SUCH);
        due("no array", x.arrayOf(-1, 0), NO_SUCH);
        due("what", x.arrayOf(0, 5), BAD_VALUE);
        due("what", x.arrayOf(0, -1), BAD_VALUE);
    }

    private static void promise20Ring() {
        TropicRanks x = with("5,1;2,2", "9,1,9;9,9,1;1,9,9", "1,2");
        due("rings", x.ring(0, 0), 3);
        due("sum", x.ring(0, 1), 3);
        due("numbers", x.ring(0, 2), 2);
        due("rings", x.ring(1, 0), 8);
        due("sum", x.ring(1, 1), 3);
        due("numbers", x.ring(1, 2), 3);
        due("no array", x.ring(3, 3), NO_SUCH);
        due("what", x.ring(2, 3), BAD_VALUE);
        due("what", x.ring(0, -1), BAD_VALUE);
        due("no square", x.ring(2, 0), NOT_POSSIBLE);
        TropicRanks y = with("5,1;3,2", "0", "9,4,9;4,9,9;9,9,4");
        due("the shorter one", y.ring(0, 1), 2);
        due("the shorter one", y.ring(0, 2), 1);
        due("the shorter one, found first", with("2,1;3,9").ring(0, 2), 1);
        due("a single one", y.ring(1, 0), 1);
        due("a single one", y.ring(1, 2), 1);
        due("a later one", y.ring(2, 1), 4);
        due("a later one", y.ring(2, 2), 1);
    }

    private static void promise21Count() {
        TropicRanks x = with("1,2,3;4,5,6", "1,2");
        write(x, "1,x");
        due("entries", x.count(0), 9);
        due("pad", x.count(1), 3);
        due("changes", x.count(2), 2);
        due("what", x.count(3), BAD_VALUE);
        due("what", x.count(-1), BAD_VALUE);
        due("what", x.count(LOWEST), BAD_VALUE);
    }

    private static void promise22IfSet() {
        TropicRanks x = with("1,2;3,4", "0,0,0,0;0,1,2,3;9,4,1,1");
        for (int what = 0; what < 4; what++) {
            due("as it is " + what, x.ifSet(0, 0, 0, 1, what), 1);
            due("with 0 " + what, x.ifSet(0, 0, 0, 0, what), 2);
        }
        due("by columns", x.ifSet(1, 2, 3, 0, 2), 4);
        due("by rows", x.ifSet(1, 2, 3, 0, 3), 3);
        dueArray(x, 0, "1,2;3,4");
        due("no change", x.count(2), 2);
        due("no array", x.ifSet(3, 0, 0, 1000, 4), NO_SUCH);
        due("no row", x.ifSet(0, 2, 0, 1000, 4), NO_SUCH);
        due("no column", x.ifSet(0, 0, -1, 1000, 4), NO_SUCH);
        due("value", x.ifSet(0, 0, 0, 1000, 0), BAD_VALUE);
        due("value", x.ifSet(0, 0, 0, -1, 0), BAD_VALUE);
        due("what", x.ifSet(0, 0, 0, 0, 4), BAD_VALUE);
        due("what", x.ifSet(0, 0, 0, 0, -1), BAD_VALUE);
        due("999", x.ifSet(0, 1, 1, 999, 1), 2);
    }

    private static void promise23BestZero() {
        TropicRanks x = with("1,5;3,4", "0,1;1,0", "1,2,3");
        due("the one", x.bestZero(0), 2);
        due("of several the lowest", x.bestZero(1), 0);
        due("of several the lowest", x.bestZero(2), 0);
        dueArray(x, 0, "1,5;3,4");
        due("no change", x.count(2), 3);
        due("no array", x.bestZero(3), NO_SUCH);
        due("no array", x.bestZero(-1), NO_SUCH);
        due("the last place", with("4,3;1,7").bestZero(0), 3);
    }

    private static void promise24Put() {
        TropicRanks x = new TropicRanks();
        due("one", x.put('!'), 1);
        due("eight", x.put(packed("1,2,3,4~")), 9);
        due("none", x.put(0), BAD_VALUE);
        due("32", x.put(32), BAD_VALUE);
        due("127", x.put(127), BAD_VALUE);
        due("255", x.put(-1), BAD_VALUE);
        due("a high one", x.put(0x8031313131313131L), BAD_VALUE);
        due("the last one 0", x.put(0x3100), BAD_VALUE);
        due("a gap", x.put(0x310031), BAD_VALUE);
        due("a gap", x.put(0x0100000000000031L), BAD_VALUE);
        due("a bad one first", x.put(0x2031), BAD_VALUE);
        due("nothing was put", x.count(1), 9);
        due("not a change", x.count(2), 0);
        x.wipe();
        for (int i = 1; i <= 9; i++) {
            due("put", x.put(packed("1,1,1,1,")), 8 * i);
        }
        due("put", x.put(packed("1,1,1,1")), 79);
        due("two more", x.put(packed("12")), TOO_MANY);
        due("bad, and more", x.put(0x313100), BAD_VALUE);
        due("one more", x.put('2'), 80);
        due("full", x.put('2'), TOO_MANY);
        due("its length", x.count(1), 80);
        TropicRanks y = new TropicRanks();
        y.put(packed("12,34;56"));
        y.put(packed(",78"));
        due("in their order", y.load(0), 4);
        dueArray(y, 0, "12,34;56,78");
    }

    private static void promise25Wipe() {
        TropicRanks x = new TropicRanks();
        due("empty", x.wipe(), 0);
        write(x, "1,2;3,4;5");
        due("wipe", x.wipe(), 9);
        due("empty", x.count(1), 0);
        due("empty", x.wipe(), 0);
        due("not a change", x.count(2), 0);
    }

    private static void dueFault(String text, int fault) {
        TropicRanks x = new TropicRanks();
        write(x, text);
        due("fault of " + text, x.fault(), fault);
        due("the pad stays", x.count(1), text.length());
    }

    private static void promise26Fault() {
        dueFault("", 0);
        dueFault("0", NONE);
        dueFault("999", NONE);
        dueFault("1000", 3);
        dueFault("999,9990", 7);
        dueFault("00", 1);
        dueFault("07", 1);
        dueFault("1,00", 3);
        dueFault("100", NONE);
        dueFault(",", 0);
        dueFault(";1", 0);
        dueFault("1,", 2);
        dueFault("1;", 2);
        dueFault("1,,2", 2);
        dueFault("1,;2", 2);
        dueFault("1;;2", 2);
        dueFault("1;2,x", 4);
        dueFault("1:2", 1);
        dueFault("1/2", 1);
        dueFault("-1", 0);
        dueFault("1+", 1);
        dueFault("1;2,3;4,5,6", NONE);
        dueFault("1,2,3,4,5,6,7;8;9;10;11;12", NONE);
        dueFault("0,".repeat(39) + "0", NONE);
        dueFault("0,".repeat(39) + "10", NONE);
        dueFault("0,".repeat(40), 80);
    }

    private static void promise27Undo() {
        TropicRanks x = new TropicRanks();
        due("none", x.undo(), NOT_POSSIBLE);
        for (int value = 1; value <= 8; value++) {
            due("set", x.set(0, 0, 0, value), value - 1);
            due("changes", x.count(2), Math.min(value, 6));
        }
        x.put('7');
        x.save(1);
        for (int left = 5; left >= 0; left--) {
            due("undo", x.undo(), left);
            due("entry", x.entry(0, 0, 0), left + 2);
        }
        due("no more", x.undo(), NOT_POSSIBLE);
        due("entry", x.entry(0, 0, 0), 2);
        due("the pad stays", x.count(1), 1);
        due("the slot stays", x.restore(1), 3);
        due("entry", x.entry(0, 0, 0), 8);
        due("after undo, a change", x.set(0, 0, 0, 50), 8);
        due("undo", x.undo(), 1);
        due("entry", x.entry(0, 0, 0), 8);
        due("undo", x.undo(), 0);
        due("entry", x.entry(0, 0, 0), 2);
        undoOfEach();
    }

    private static void undoOfEach() {
        TropicRanks x = with("1,2;3,4", "5,6;7,8", "9,1;1,9");
        x.raise(0, true, 0, 5);
        x.undo();
        x.exchange(0, true, 0, 1);
        x.undo();
        x.drop(0, false, 1);
        x.undo();
        x.turn(0);
        x.undo();
        x.product(0, 1, 0);
        x.undo();
        due("close", x.close(2), 2);
        x.undo();
        due("changes", x.count(2), 3);
        dueArray(x, 0, "1,2;3,4");
        dueArray(x, 1, "5,6;7,8");
        dueArray(x, 2, "9,1;1,9");
    }

    private static void promise28Save() {
        TropicRanks x = with("1,2,3;4,5,6");
        due("save", x.save(0), 8);
        due("not a change", x.count(2), 1);
        x.set(0, 0, 0, 100);
        due("save over it", x.save(0), 8);
        x.set(0, 0, 0, 200);
        x.turn(0);
        due("restore", x.restore(0), 8);
        dueArray(x, 0, "100,2,3;4,5,6");
        due("no slot", x.save(2), BAD_VALUE);
        due("no slot", x.save(-1), BAD_VALUE);
        due("no slot", x.save(LOWEST), BAD_VALUE);
        due("the other one is free", x.restore(1), NOT_POSSIBLE);
    }

    private static void promise29Restore() {
        TropicRanks x = with("1,2,3;4,5,6");
        due("no slot", x.restore(2), BAD_VALUE);
        due("no slot", x.restore(-1), BAD_VALUE);
        due("nothing saved", x.restore(1), NOT_POSSIBLE);
        x.save(1);
        x.drop(0, true, 0);
        x.set(2, 0, 0, 77);
        write(x, "5,");
        due("restore", x.restore(1), 8);
        dueArray(x, 0, "1,2,3;4,5,6");
        dueArray(x, 2, "0");
        due("the pad stays", x.count(1), 2);
        due("a change", x.count(2), 4);
        due("undo", x.undo(), 3);
        dueArray(x, 0, "4,5,6");
        dueArray(x, 2, "77");
        due("the slot keeps it", x.restore(1), 8);
        x.set(0, 0, 0, 500);
        due("the slot is its own", x.restore(1), 8);
        dueArray(x, 0, "1,2,3;4,5,6");
        due("slot 0 is another one", x.restore(0), NOT_POSSIBLE);
    }
}
