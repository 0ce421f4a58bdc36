import java.util.ArrayList;
import java.util.List;

/**
 * The edges of the promises 11 to 18, 20, 22 and 23: permanent, byParts, canTouch, byCovers,
 * cover, cone, factor, byCone, ring, ifSet, bestZero. None of these changes anything.
 */
public final class EdgesOfRanksTest extends Sheet {
    private static final String[] WHATS = {"what 0", "what 1", "what 2", "what 3"};

    // For these each number is easy to find by hand.
    private static final String DIAGONAL = "0,9,9;9,0,9;9,9,0";
    private static final String TWELVE_ZEROS = "0,0,0,0;0,0,0,0;0,0,0,0";

    // Square differences: of each part the way from its first row and column on is the only least one.
    private static final String SQUARES = "0,1,4,9;1,0,1,4;4,1,0,1";
    private static final String SQUARES_TURNED = "0,1,4;1,0,1;4,1,0;9,4,1";

    public static void main(String[] args) throws IllegalAccessException {
        runSentences(EdgesOfRanksTest.class);
    }

    // ---- all of them

    /** A call on an array, which answers just from what the array is. */
    private interface Asking {
        int of(TropicRanks x, int array);
    }

    private static List<Asking> askings() {
        List<Asking> all = new ArrayList<>();
        for (int number = 0; number < 4; number++) {
            int what = number;
            all.add((x, array) -> x.byParts(array, what));
            all.add((x, array) -> x.byCovers(array, what));
            all.add((x, array) -> x.byCone(array, true, what));
            all.add((x, array) -> x.byCone(array, false, what));
            all.add((x, array) -> x.ring(array, what));
            all.add((x, array) -> x.permanent(array, 3, 3, what));
            all.add((x, array) -> x.permanent(array, 7, 7, what));
            all.add((x, array) -> x.ifSet(array, 0, 1, 3, what));
            all.add((x, array) -> x.factor(array, 0, what));
            all.add((x, array) -> x.cone(array, 1, 1 + 4 * what, 1));
        }
        for (int number = 0; number < 12; number++) {
            int place = number;
            all.add((x, array) -> x.cover(array, place));
            all.add((x, array) -> x.canTouch(array, 3 << place));
        }
        all.add((x, array) -> x.bestZero(array));
        return all;
    }

    @Sentence("nothing changes: what was asked for before, also of another array, does not matter")
    static void askedBefore() {
        String[] texts = {SQUARES, "7,1;2,7", "4,9,9;9,5,9;9,9,6"};
        int[][] wants = new int[texts.length][askings().size()];
        for (int array = 0; array < texts.length; array++) {
            for (int asking = 0; asking < askings().size(); asking++) {
                wants[array][asking] = askings().get(asking).of(with(texts), array);
            }
        }
        // Not more than 512 calls on one object.
        TropicRanks of = with(texts);
        for (int asking = 0; asking < askings().size(); asking++) {
            for (int array : new int[] {0, 1, 2, 0}) {
                due("asking " + asking + " of " + texts[array], askings().get(asking).of(of, array), wants[array][asking]);
            }
        }
        TropicRanks backwards = with(texts);
        for (int array : new int[] {1, 0, 2, 1}) {
            for (int asking = askings().size() - 1; asking >= 0; asking--) {
                due("asking " + asking + " of " + texts[array], askings().get(asking).of(backwards, array),
                        wants[array][asking]);
            }
        }
        dueAlikeArrays("after all", of, with(texts));
    }

    // ---- promise 11: permanent

    private static void partHas(String text, int rows, int columns, int... wants) {
        for (int what = 0; what < wants.length; what++) {
            int asked = what;
            stays(having(text), "permanent of " + text + ", rows " + rows + ", columns " + columns + ", " + WHATS[what],
                    x -> x.permanent(0, rows, columns, asked), wants[what]);
        }
    }

    private static void permanentFails(int array, int rows, int columns, int what, int error) {
        stays(Sheet::busy, "permanent " + array + " " + rows + " " + columns + " " + what,
                x -> x.permanent(array, rows, columns, what), error);
    }

    @Sentence("A part of an array is some of its rows and as many of its columns, at least one")
    static void permanentOfOneEntry() {
        for (int place = 0; place < 12; place++) {
            partHas("10,11,12,13;14,15,16,17;18,19,20,21", 1 << place / 4, 1 << place % 4, 10 + place, 1, 10 + place);
            partHas("10,11,12;13,14,15;16,17,18;19,20,21", 1 << place / 3, 1 << place % 3, 10 + place, 1, 10 + place);
        }
        partHas("0", 1, 1, 0, 1, 0);
        partHas("999", 1, 1, 999, 1, 999);
    }

    @Sentence("A way through it gives each of its rows another one of its columns")
    static void permanentOfTwoAndThree() {
        partHas(SQUARES, 5, 10, 2, 1, 10);
        partHas(SQUARES, 6, 12, 2, 1, 4);
        partHas(SQUARES, 7, 7, 0, 1, 8);
        partHas(SQUARES, 7, 14, 3, 1, 11);
        partHas(SQUARES_TURNED, 14, 7, 3, 1, 11);
        partHas(SQUARES_TURNED, 10, 5, 2, 1, 10);
        partHas("9,1,9;9,9,1;1,9,9", 7, 7, 3, 1, 27);
    }

    @Sentence("0 its permanent, the least sum of a way: whichever way it is")
    static void permanentOfEachWay() {
        partHas("0,9,9;9,0,9;9,9,0", 7, 7, 0, 1, 27);
        partHas("0,9,9;9,9,0;9,0,9", 7, 7, 0, 1, 27);
        partHas("9,0,9;0,9,9;9,9,0", 7, 7, 0, 1, 27);
        partHas("9,0,9;9,9,0;0,9,9", 7, 7, 0, 1, 27);
        partHas("9,9,0;0,9,9;9,0,9", 7, 7, 0, 1, 27);
        partHas("9,9,0;9,0,9;0,9,9", 7, 7, 0, 1, 27);
        partHas("0,1;9,0", 3, 3, 0, 1, 10);
        partHas("9,1;1,9", 3, 3, 2, 1, 18);
    }

    @Sentence("1 how many ways have this sum: one to six")
    static void permanentOfSeveralWays() {
        partHas("1,2;3,4", 3, 3, 5, 2, 5);
        partHas("0,0,9;0,9,0;9,0,0", 7, 7, 0, 2, 27);
        partHas("0,0,9;0,0,0;0,9,0", 7, 7, 0, 3, 18);
        partHas("0,0,0;0,0,1;0,0,0", 7, 7, 0, 4, 1);
        partHas("5,5,5;5,5,5;5,5,5", 7, 7, 15, 6, 15);
        partHas(TWELVE_ZEROS, 7, 13, 0, 6, 0);
    }

    @Sentence("an entry is 0 to 999: the greatest sum of a way is 2997")
    static void permanentOfGreatestEntries() {
        partHas("999,999,999;999,999,999;999,999,999", 7, 7, 2997, 6, 2997);
        partHas("999,0;0,999", 3, 3, 0, 1, 1998);
    }

    @Sentence("NO_SUCH if there is no such array")
    static void permanentOfNoArray() {
        for (int array : NO_ARRAYS) {
            permanentFails(array, 1, 1, 0, NO_SUCH);
        }
    }

    @Sentence("BAD_VALUE if rows or columns is 0 or below")
    static void permanentOfNoRowsOrColumns() {
        permanentFails(2, 0, 0, 0, BAD_VALUE);
        permanentFails(2, 0, 1, 0, BAD_VALUE);
        permanentFails(2, 1, 0, 0, BAD_VALUE);
        for (int below : new int[] {-1, -2, -8, LOWEST, LOWEST + 1}) {
            permanentFails(2, below, 1, 0, BAD_VALUE);
            permanentFails(2, 1, below, 0, BAD_VALUE);
            permanentFails(2, below, below, 0, BAD_VALUE);
        }
    }

    @Sentence("BAD_VALUE if rows or columns has one that is not there")
    static void permanentOfRowsThatAreNotThere() {
        for (int rows : new int[] {8, 16, 1 << 30}) {
            permanentFails(2, rows, 1, 0, BAD_VALUE);
            permanentFails(2, 1, rows, 0, BAD_VALUE);
            permanentFails(2, rows, rows, 0, BAD_VALUE);
            permanentFails(2, rows + 1, 3, 0, BAD_VALUE);
            permanentFails(2, 3, rows + 1, 0, BAD_VALUE);
        }
        permanentFails(1, 2, 1, 0, BAD_VALUE);
        permanentFails(1, 1, 8, 0, BAD_VALUE);
        permanentFails(2, HIGHEST, HIGHEST, 0, BAD_VALUE);
        stays(Sheet::full, "row 3 of 3, column 3 of 4", x -> x.permanent(0, 8, 8, 0), BAD_VALUE);
        stays(Sheet::full, "row 2 of 3, column 3 of 4", x -> x.permanent(0, 4, 8, 0), 1);
        stays(Sheet::full, "row 3 of 4, column 3 of 3", x -> x.permanent(1, 8, 8, 0), BAD_VALUE);
        stays(Sheet::full, "row 3 of 4, column 2 of 3", x -> x.permanent(1, 8, 4, 0), 1);
        stays(Sheet::full, "row 4 of 4", x -> x.permanent(1, 16, 4, 0), BAD_VALUE);
        stays(Sheet::full, "column 4 of 4", x -> x.permanent(0, 1, 16, 0), BAD_VALUE);
    }

    @Sentence("BAD_VALUE if both are not as many")
    static void permanentOfUnlikeNumbers() {
        permanentFails(2, 1, 3, 0, BAD_VALUE);
        permanentFails(2, 3, 1, 0, BAD_VALUE);
        permanentFails(2, 7, 3, 0, BAD_VALUE);
        permanentFails(2, 5, 7, 0, BAD_VALUE);
        stays(Sheet::full, "all of 3 by 4", x -> x.permanent(0, 7, 15, 0), BAD_VALUE);
        stays(Sheet::full, "all of 4 by 3", x -> x.permanent(1, 15, 7, 0), BAD_VALUE);
    }

    @Sentence("BAD_VALUE if what is out of range")
    static void permanentOfNoWhat() {
        for (int what : new int[] {-1, 3, 4, LOWEST, HIGHEST}) {
            permanentFails(2, 1, 1, what, BAD_VALUE);
        }
    }

    @Sentence("The first error that applies: NO_SUCH, BAD_VALUE")
    static void permanentErrorsInOrder() {
        permanentFails(3, 0, 1, 0, NO_SUCH);
        permanentFails(-1, 1, 3, 0, NO_SUCH);
        permanentFails(3, 1, 1, 3, NO_SUCH);
    }

    // ---- promise 12: byParts

    private static void partsOf(String text, int... wants) {
        for (int what = 0; what < wants.length; what++) {
            int asked = what;
            stays(having(text), "byParts of " + text + ", " + WHATS[what], x -> x.byParts(0, asked), wants[what]);
        }
    }

    @Sentence("A part is regular if just one way has this sum: each part of one entry is")
    static void byPartsOfLikeEntries() {
        partsOf("0", 1, 1, 1, 1);
        partsOf("999", 1, 1, 1, 1);
        partsOf("7,7,7,7", 1, 1, 1, 4);
        partsOf("7;7;7;7", 1, 1, 1, 4);
        partsOf(TWELVE_ZEROS, 1, 1, 1, 12);
        partsOf("1,2;3,4", 1, 1, 1, 4);
    }

    @Sentence("0 the rank; 3 regular parts of any size, how many: all parts are")
    static void byPartsIfAllAreRegular() {
        partsOf("0,1;1,0", 2, 3, 3, 5);
        partsOf("0,1,4;1,0,1;4,1,0", 3, 7, 7, 19);
        partsOf(SQUARES, 3, 7, 7, 34);
        partsOf(SQUARES_TURNED, 3, 7, 7, 34);
    }

    @Sentence("The rank by parts is the greatest number of rows of a regular part: not of the whole array")
    static void byPartsIfTheWholeIsNotRegular() {
        partsOf("0,0,9;0,9,0;9,0,0", 2, 3, 3, 18);
        partsOf("0,0,0;0,0,1;0,0,0", 2, 3, 5, 13);
    }

    @Sentence("1 the rows: the one with the least set of rows as a number")
    static void byPartsOfTheLeastRows() {
        partsOf("0,0;0,0;0,1", 2, 5, 3, 8);
        partsOf("0,0;0,0;0,0;0,1", 2, 9, 3, 11);
        partsOf("0,0;0,1;0,0", 2, 3, 3, 8);
    }

    @Sentence("2 the columns: of these with the least set of columns")
    static void byPartsOfTheLeastColumns() {
        partsOf("0,0,0;0,0,1", 2, 3, 5, 8);
        partsOf("0,0,0,0;0,0,0,1", 2, 3, 9, 11);
        partsOf("0,0,0;0,1,0", 2, 3, 3, 8);
        // The rows 0 and 2 would have the lesser set of columns, but not of rows.
        partsOf("0,0,0;0,0,5;5,0,0", 2, 3, 5, 16);
    }

    @Sentence("NO_SUCH if there is no such array; BAD_VALUE if what is out of range")
    static void byPartsErrors() {
        for (int array : NO_ARRAYS) {
            stays(Sheet::busy, "byParts " + array, x -> x.byParts(array, 0), NO_SUCH);
            stays(Sheet::busy, "byParts " + array, x -> x.byParts(array, 4), NO_SUCH);
        }
        for (int what : new int[] {-1, 4, 5, LOWEST, HIGHEST}) {
            stays(Sheet::busy, "byParts, what " + what, x -> x.byParts(0, what), BAD_VALUE);
        }
    }

    // ---- promise 13: canTouch

    private static void touches(String text, int places, int want) {
        stays(having(text), "canTouch " + places + " of " + text, x -> x.canTouch(0, places), want);
    }

    @Sentence("u(i) + v(j) is at least the entry (i, j) everywhere: a lesser way cannot be touched")
    static void canTouchOneWay() {
        touches("0,1;1,0", 9, 0);
        touches("0,1;1,0", 6, 1);
        touches("1,0;0,1", 9, 1);
        touches("1,0;0,1", 6, 0);
        touches("1,2;3,4", 9, 1);
        touches("1,2;3,4", 6, 1);
    }

    @Sentence("A set of places can be touched if there is a cover that touches all of them (and perhaps others)")
    static void canTouchEachSet() {
        for (int places = 0; places < 16; places++) {
            touches("0,1;1,0", places, (places & 9) == 9 ? 0 : 1);
            touches("1,2;3,4", places, 1);
        }
    }

    @Sentence("A cover is a number u(i) for each row, and v(j) for each column; it touches the entry where it is the same")
    static void canTouchWhatCoversTouch() {
        for (int mix = 0; mix < 81; mix++) {
            String text = mix % 3 + "," + mix / 3 % 3 + ";" + mix / 9 % 3 + "," + mix / 27;
            touchesAsCoversDo(text, 2, 2, 5);
        }
        touchesAsCoversDo("2,0,1", 1, 3, 5);
        touchesAsCoversDo("2;0;1", 3, 1, 5);
        touchesAsCoversDo("2,0,1;1,2,0", 2, 3, 5);
        touchesAsCoversDo("2,0,2;0,0,1", 2, 3, 5);
        touchesAsCoversDo("2,0;1,2;0,1", 3, 2, 5);
        touchesAsCoversDo("0,1,1;1,0,1;1,1,0", 3, 3, 3);
        touchesAsCoversDo("1,0,2;2,1,0;0,2,1", 3, 3, 4);
        touchesAsCoversDo("0,0,1;0,1,0;1,0,0", 3, 3, 3);
    }

    /**
     * Goes through all covers whose numbers are not further than so much from 0, and asks for each
     * set of places. The first row has 0, as a cover stays one if all rows give something to the columns.
     */
    private static void touchesAsCoversDo(String text, int rows, int columns, int far) {
        TropicRanks x = with(text);
        boolean[] canBe = new boolean[1 << rows * columns];
        int[] numbers = new int[rows + columns];
        int steps = 2 * far + 1;
        int mixes = (int) Math.pow(steps, rows + columns - 1);
        String[] entries = text.split("[,;]");
        for (int mix = 0; mix < mixes; mix++) {
            int rest = mix;
            for (int line = 1; line < numbers.length; line++) {
                numbers[line] = rest % steps - far;
                rest /= steps;
            }
            int touched = 0;
            boolean isCover = true;
            for (int place = 0; place < entries.length && isCover; place++) {
                int sum = numbers[place / columns] + numbers[rows + place % columns];
                int entry = Integer.parseInt(entries[place]);
                isCover = sum >= entry;
                touched |= sum == entry ? 1 << place : 0;
            }
            if (isCover) {
                canBe[touched] = true;
            }
        }
        for (int places = 0; places < canBe.length; places++) {
            boolean isIn = false;
            for (int touched = 0; touched < canBe.length && !isIn; touched++) {
                isIn = canBe[touched] && (places & ~touched) == 0;
            }
            due("canTouch " + places + " of " + text, x.canTouch(0, places), isIn ? 1 : 0);
        }
    }

    @Sentence("whole numbers, also below 0: from the least to the greatest entry")
    static void canTouchWithGreatEntries() {
        touches("0,999;0,0", 14, 1);
        touches("0,999;0,0", 7, 1);
        touches("0,999;0,0", 9, 0);
        touches("0,0;999,999", 15, 1);
        touches("0,999;0,999", 15, 1);
        touches("0,999;0,998", 9, 0);
        touches("0,999;0,998", 6, 1);
    }

    @Sentence("A set of places: none, one, and all twelve")
    static void canTouchNoneAndAll() {
        touches("0", 0, 1);
        touches("0", 1, 1);
        touches(TWELVE_ZEROS, 0, 1);
        touches(TWELVE_ZEROS, 4095, 1);
        touches(SQUARES, 0, 1);
        touches(SQUARES, 4095, 0);
        touches("4,0,999,7", 15, 1);
        touches("4;0;999;7", 15, 1);
        for (int place = 0; place < 12; place++) {
            touches(SQUARES, 1 << place, 1);
            touches(SQUARES_TURNED, 1 << place, 1);
        }
    }

    @Sentence("all of them: though each two can be touched, the three cannot")
    static void canTouchTwoButNotThree() {
        String ring = "2,0,3;3,2,0;0,3,2";
        touches(ring, 17, 1);
        touches(ring, 257, 1);
        touches(ring, 272, 1);
        touches(ring, 273, 0);
        touches("3,0,3;3,2,0;0,3,2", 273, 0);
        touches("4,0,3;3,2,0;0,3,2", 273, 0);
        // 5 + 2 + 2 is as much as the way over 3, 3 and 3.
        touches("5,0,3;3,2,0;0,3,2", 273, 1);
    }

    @Sentence("The place of an entry is its row times the columns, and its column, together")
    static void canTouchPlaces() {
        // One entry is greater: it stands against two that are lesser, one in its column and one in its row.
        touches("0,0,0,0;0,0,9,0;0,0,0,0", 1 << 2 | 1 << 4, 0);
        touches("0,0,0,0;0,0,9,0;0,0,0,0", 1 << 2 | 1 << 7, 0);
        touches("0,0,0,0;0,0,9,0;0,0,0,0", 1 << 10 | 1 << 4, 0);
        touches("0,0,0,0;0,0,9,0;0,0,0,0", 1 << 2 | 1 << 6, 1);
        touches("0,0,0,0;0,0,9,0;0,0,0,0", 4095 & ~(1 << 4 | 1 << 5 | 1 << 7), 1);
        touches("0,0,0;0,0,9;0,0,0;0,0,0", 1 << 2 | 1 << 3, 0);
        touches("0,0,0;0,0,9;0,0,0;0,0,0", 1 << 11 | 1 << 4, 0);
        touches("0,0,0;0,0,9;0,0,0;0,0,0", 1 << 11 | 1 << 6, 1);
        touches("0,0,0;0,0,9;0,0,0;0,0,0", 4095 & ~(1 << 3 | 1 << 4), 1);
    }

    @Sentence("NO_SUCH if there is no such array")
    static void canTouchNoArray() {
        for (int array : NO_ARRAYS) {
            stays(Sheet::busy, "canTouch " + array, x -> x.canTouch(array, 1), NO_SUCH);
            stays(Sheet::busy, "canTouch " + array, x -> x.canTouch(array, -1), NO_SUCH);
            stays(Sheet::busy, "canTouch " + array, x -> x.canTouch(array, 4096), NO_SUCH);
        }
    }

    @Sentence("BAD_VALUE if places is below 0, or has one that is not there")
    static void canTouchNoPlaces() {
        for (int places : new int[] {-1, -2, 16, 17, 4096, 1 << 30, LOWEST, LOWEST + 1, HIGHEST}) {
            stays(Sheet::busy, "canTouch " + places, x -> x.canTouch(0, places), BAD_VALUE);
        }
        touches("0", 2, BAD_VALUE);
        touches("0", 3, BAD_VALUE);
        touches("1,2,3", 7, 1);
        touches("1,2,3", 8, BAD_VALUE);
        touches(TWELVE_ZEROS, 4096, BAD_VALUE);
        touches(TWELVE_ZEROS, 8191, BAD_VALUE);
        touches(TWELVE_ZEROS, -4096, BAD_VALUE);
    }

    // ---- promise 14: byCovers

    private static void coversOf(String text, int... wants) {
        for (int what = 0; what < wants.length; what++) {
            int asked = what;
            stays(having(text), "byCovers of " + text + ", " + WHATS[what], x -> x.byCovers(0, asked), wants[what]);
        }
    }

    @Sentence("The rank by covers is the least number of such sets with which each place is in one: 1")
    static void byCoversOfOneSet() {
        coversOf("0", 1, 2, 1);
        coversOf("999", 1, 2, 1);
        coversOf("3,1,4,1", 1, 16, 4);
        coversOf("3;1;4;1", 1, 16, 4);
        coversOf("1,2;3,4", 1, 16, 4);
        coversOf(TWELVE_ZEROS, 1, 4096, 12);
        coversOf("0,1,2;3,4,5;6,7,8;9,10,11", 1, 4096, 12);
    }

    @Sentence("The rank by covers: 2")
    static void byCoversOfTwoSets() {
        coversOf("0,1;1,0", 2, 12, 3);
        coversOf("0,999;0,0", 2, 12, 3);
        coversOf("1,2;3,5", 2, 12, 3);
        coversOf("0,0;0,0;0,1", 2);
        coversOf("5,0;9,0;0,0", 2);
    }

    @Sentence("The rank by covers: 3")
    static void byCoversOfThreeSets() {
        coversOf(DIAGONAL, 3, 112, 6);
        // Of its zeros five stand in a ring in which no two neighbours can be touched.
        coversOf("0,0,1;0,1,0;1,0,0", 3);
        coversOf(SQUARES, 3);
        coversOf(SQUARES_TURNED, 3);
    }

    @Sentence("1 how many sets of places can be touched (the empty one, too)")
    static void byCoversCountsEachSet() {
        for (String text : new String[] {"2,0,3;3,2,0", "0,0,1;0,1,0;1,0,0", "4,2;0,0;7,1", SQUARES}) {
            TropicRanks x = with(text);
            int sets = 0;
            for (int places = 0; places < 1 << entriesIn(text); places++) {
                sets += x.canTouch(0, places);
            }
            due("sets of " + text, x.byCovers(0, 1), sets);
        }
    }

    @Sentence("2 how many places are in the greatest one")
    static void byCoversOfTheGreatestSet() {
        for (String text : new String[] {"2,0,3;3,2,0", "0,0,1;0,1,0;1,0,0", "4,2;0,0;7,1", SQUARES}) {
            TropicRanks x = with(text);
            int most = 0;
            for (int places = 0; places < 1 << entriesIn(text); places++) {
                most = Math.max(most, x.canTouch(0, places) * Integer.bitCount(places));
            }
            due("greatest set of " + text, x.byCovers(0, 2), most);
        }
        // Some of three places in the row of the 9, or of two in its column, and any of seven others.
        coversOf("0,0,0,0;0,0,9,0;0,0,0,0", 2, 128 * (8 + 4 - 1), 10);
    }

    @Sentence("NO_SUCH if there is no such array; BAD_VALUE if what is out of range")
    static void byCoversErrors() {
        for (int array : NO_ARRAYS) {
            stays(Sheet::busy, "byCovers " + array, x -> x.byCovers(array, 0), NO_SUCH);
            stays(Sheet::busy, "byCovers " + array, x -> x.byCovers(array, 3), NO_SUCH);
        }
        for (int what : new int[] {-1, 3, 4, LOWEST, HIGHEST}) {
            stays(Sheet::busy, "byCovers, what " + what, x -> x.byCovers(0, what), BAD_VALUE);
        }
    }

    // ---- promise 15: cover

    private static void firstRowOf(String text, int... wants) {
        due("places of " + text, wants.length, entriesIn(text));
        for (int place = 0; place < wants.length; place++) {
            int asked = place;
            stays(having(text), "cover " + place + " of " + text, x -> x.cover(0, asked), wants[place]);
        }
    }

    @Sentence("A cover row tells for each place one of so many numbers, 0 to the rank less 1")
    static void coverOfRankOne() {
        firstRowOf("0", 0);
        firstRowOf("999", 0);
        firstRowOf("1,2;3,4", 0, 0, 0, 0);
        firstRowOf("3,1,4,1", 0, 0, 0, 0);
        firstRowOf(TWELVE_ZEROS, 0, 0, 0, 0, 0, 0, 0, 0, 0, 0, 0, 0);
    }

    @Sentence("so that the places with the same number can be touched: of numbers from 0 to the rank less 1")
    static void coverOfPlacesThatCanBeTouched() {
        for (String text : new String[] {"0", "0,1;1,0", "2,0,3;3,2,0", "5,0;9,0;0,0", "2,0,3;3,2,0;0,3,2", DIAGONAL,
                "0,0,1;0,1,0;1,0,0", "7,1,8,2;8,1,8,2;8,4,5,9", SQUARES, SQUARES_TURNED, TWELVE_ZEROS}) {
            TropicRanks x = with(text);
            int rank = x.byCovers(0, 0);
            int[] placesOf = new int[rank];
            for (int place = 0; place < entriesIn(text); place++) {
                int number = x.cover(0, place);
                boolean isNumber = number >= 0 && number < rank;
                due("cover " + place + " of " + text + ", " + number + " is below " + rank, isNumber ? 1 : 0, 1);
                if (isNumber) {
                    placesOf[number] |= 1 << place;
                }
            }
            for (int number = 0; number < rank; number++) {
                due("places of " + text + " with " + number, x.canTouch(0, placesOf[number]), 1);
                // With less numbers it would be a lesser rank.
                due("places of " + text + " with " + number + ", some", placesOf[number] == 0 ? 0 : 1, 1);
            }
        }
    }

    @Sentence("the first cover row is the one in which the place 0 has the least number, of these the place 1, and so on")
    static void coverOfRankTwoAndThree() {
        firstRowOf("0,1;1,0", 0, 0, 0, 1);
        firstRowOf("1,0;0,1", 0, 0, 1, 0);
        firstRowOf(DIAGONAL, 0, 0, 0, 0, 1, 1, 0, 1, 2);
    }

    @Sentence("the first cover row is of so many numbers as the rank: the least number at each place would need more")
    static void coverThatGoesBack() {
        // A cover touches of each row its first entry, its second one, or both: those with
        // a greater difference, with a lesser one, with the same. Of two covers one has to
        // be below all differences and one above, so that the places 0 and 1 are apart.
        firstRowOf("5,0;9,0;0,0", 0, 1, 0, 1, 0, 0);
        firstRowOf("5,0;0,0;9,0", 0, 1, 0, 0, 0, 1);
        firstRowOf("0,0;5,0;9,0", 0, 0, 0, 1, 0, 1);
    }

    @Sentence("NO_SUCH if there is no such array or place")
    static void coverErrors() {
        for (int array : NO_ARRAYS) {
            stays(Sheet::busy, "cover " + array, x -> x.cover(array, 0), NO_SUCH);
        }
        for (int place : new int[] {-1, 4, 5, 12, LOWEST, HIGHEST}) {
            stays(Sheet::busy, "cover, place " + place, x -> x.cover(0, place), NO_SUCH);
        }
        stays(TropicRanks::new, "place 1 of 1", x -> x.cover(0, 1), NO_SUCH);
        stays(Sheet::full, "place 12 of 12", x -> x.cover(0, 12), NO_SUCH);
        stays(Sheet::full, "place 12 of 12", x -> x.cover(1, 12), NO_SUCH);
        stays(having(TWELVE_ZEROS), "place 11 of 12", x -> x.cover(0, 11), 0);
    }

    // ---- promise 16: cone

    /** Whether a column comes from others, and the rows that tell why not. */
    private static void comes(String text, int column, int others, int whether, int rows) {
        String call = "cone of " + text + ", " + column + " from " + others;
        stays(having(text), call + ", what 0", x -> x.cone(0, column, others, 0), whether);
        stays(having(text), call + ", what 1", x -> x.cone(0, column, others, 1), rows);
    }

    @Sentence("c comes from them if in each row i the entry (i, c) is the least of all f(k) + the entry (i, k)")
    static void coneOfOne() {
        comes("1,2;3,4", 0, 2, 1, 0);
        comes("1,2;3,4", 1, 1, 1, 0);
        comes("0,1;1,0", 0, 2, 0, 1);
        comes("0,1;1,0", 1, 1, 0, 2);
        comes("0,999;999,0", 0, 2, 0, 1);
        comes("0,0;0,999;999,0;0,0", 0, 2, 0, 11);
    }

    @Sentence("the least of all f(k) + the entry: of two, though not of one of them")
    static void coneOfTwo() {
        String valley = "0,0,9;5,5,5;0,9,0";
        comes(valley, 0, 6, 1, 0);
        comes(valley, 0, 2, 0, 4);
        comes(valley, 0, 4, 0, 1);
        comes(valley, 1, 5, 0, 2 | 1);
        comes(valley, 2, 1, 0, 2 | 4);
    }

    @Sentence("f(k) is the greatest of all differences: at each row, also below 0")
    static void coneByEachRow() {
        comes("9,0;0,0;0,0", 0, 2, 0, 6);
        comes("0,0;9,0;0,0", 0, 2, 0, 5);
        comes("0,0;0,0;9,0", 0, 2, 0, 3);
        comes("0,9;1,10;2,999", 0, 2, 0, 4);
        comes("3,5;1,3;2,4", 0, 2, 1, 0);
    }

    @Sentence("(A column depends on no columns not at all.) 1: all rows, if others is 0")
    static void coneOfNoOthers() {
        comes("0", 0, 0, 0, 1);
        comes("7;7;7;7", 0, 0, 0, 15);
        comes("1,2;3,4", 1, 0, 0, 3);
        comes(TWELVE_ZEROS, 3, 0, 0, 7);
    }

    @Sentence("others: a set of other columns, before it and behind it")
    static void coneOfAllOthers() {
        comes(TWELVE_ZEROS, 0, 14, 1, 0);
        comes(TWELVE_ZEROS, 1, 13, 1, 0);
        comes(TWELVE_ZEROS, 3, 7, 1, 0);
        comes(SQUARES, 0, 14, 0, 3);
        comes(SQUARES, 1, 13, 0, 2);
        comes(SQUARES, 2, 11, 0, 2);
        comes(SQUARES, 3, 7, 0, 6);
    }

    private static void coneFails(int array, int column, int others, int what, int error) {
        stays(Sheet::busy, "cone " + array + " " + column + " " + others + " " + what,
                x -> x.cone(array, column, others, what), error);
    }

    @Sentence("NO_SUCH if there is no such array or column")
    static void coneOfNoColumn() {
        for (int array : NO_ARRAYS) {
            coneFails(array, 0, 0, 0, NO_SUCH);
        }
        for (int column : new int[] {-1, 2, 3, 31, 32, LOWEST, HIGHEST}) {
            coneFails(0, column, 0, 0, NO_SUCH);
        }
        coneFails(1, 3, 0, 0, NO_SUCH);
        stays(having("1;2;3;4"), "cone of column 1 of 1", x -> x.cone(0, 1, 0, 0), NO_SUCH);
        stays(Sheet::full, "cone of column 4 of 4", x -> x.cone(0, 4, 0, 0), NO_SUCH);
        stays(Sheet::full, "cone of column 3 of 3", x -> x.cone(1, 3, 0, 0), NO_SUCH);
    }

    @Sentence("BAD_VALUE if others is below 0")
    static void coneOfOthersBelowNothing() {
        for (int others : new int[] {-1, -2, -4, LOWEST, LOWEST + 2}) {
            coneFails(0, 0, others, 0, BAD_VALUE);
        }
    }

    @Sentence("BAD_VALUE if others has the column itself")
    static void coneOfItself() {
        coneFails(0, 0, 1, 0, BAD_VALUE);
        coneFails(0, 0, 3, 1, BAD_VALUE);
        coneFails(2, 2, 4, 0, BAD_VALUE);
        coneFails(2, 1, 7, 0, BAD_VALUE);
        stays(TropicRanks::new, "the only column", x -> x.cone(0, 0, 1, 0), BAD_VALUE);
        stays(Sheet::full, "column 3", x -> x.cone(0, 3, 15, 0), BAD_VALUE);
    }

    @Sentence("BAD_VALUE if others has one that is not there")
    static void coneOfOthersThatAreNotThere() {
        for (int others : new int[] {4, 6, 8, 1 << 30, HIGHEST - 1}) {
            coneFails(0, 0, others, 0, BAD_VALUE);
        }
        coneFails(1, 0, 6, 0, 1);
        coneFails(1, 0, 8, 0, BAD_VALUE);
        stays(Sheet::full, "column 4 of 4", x -> x.cone(0, 0, 16, 0), BAD_VALUE);
        stays(TropicRanks::new, "column 1 of 1", x -> x.cone(0, 0, 2, 0), BAD_VALUE);
    }

    @Sentence("BAD_VALUE if what is neither 0 nor 1")
    static void coneOfNoWhat() {
        for (int what : new int[] {-1, 2, 3, LOWEST, HIGHEST}) {
            coneFails(0, 0, 2, what, BAD_VALUE);
        }
    }

    @Sentence("The first error that applies: NO_SUCH, BAD_VALUE")
    static void coneErrorsInOrder() {
        coneFails(3, 0, -1, 0, NO_SUCH);
        coneFails(3, 0, 0, 2, NO_SUCH);
        coneFails(0, 2, 4, 0, NO_SUCH);
        coneFails(0, -1, 0, 2, NO_SUCH);
    }

    // ---- promise 17: factor

    private static void factorIs(String text, int column, int k, int want) {
        stays(having(text), "factor of " + text + ", " + column + " " + k, x -> x.factor(0, column, k), want);
    }

    @Sentence("Returns f(k) of a column, and 1000, together: from 1 to 1999")
    static void factorLeastAndGreatest() {
        factorIs("0,999", 0, 1, 1);
        factorIs("0,999", 1, 0, 1999);
        factorIs("0,999;0,999;0,999;0,999", 0, 1, 1);
        factorIs("0,0", 0, 1, 1000);
        factorIs("999,999;0,0", 1, 0, 1000);
        factorIs("1,2;3,4", 0, 1, 999);
        factorIs("1,2;3,4", 1, 0, 1001);
    }

    @Sentence("the greatest of all differences: in each row; k: another column, before it or behind it")
    static void factorByEachRow() {
        factorIs("5,0;0,0;0,0;0,0", 0, 1, 1005);
        factorIs("0,0;5,0;0,0;0,0", 0, 1, 1005);
        factorIs("0,0;0,0;0,0;5,0", 0, 1, 1005);
        factorIs("0,9;0,8;0,7;0,9", 0, 1, 993);
        factorIs(SQUARES, 0, 3, 1003);
        factorIs(SQUARES, 3, 0, 1009);
        factorIs(SQUARES, 2, 3, 999);
    }

    private static void factorFails(int array, int column, int k, int error) {
        stays(Sheet::busy, "factor " + array + " " + column + " " + k, x -> x.factor(array, column, k), error);
    }

    @Sentence("NO_SUCH if there is no such array or column")
    static void factorOfNoColumn() {
        for (int array : NO_ARRAYS) {
            factorFails(array, 0, 1, NO_SUCH);
        }
        for (int column : new int[] {-1, 2, 3, LOWEST, HIGHEST}) {
            factorFails(0, column, 0, NO_SUCH);
            factorFails(0, 0, column, NO_SUCH);
        }
        stays(having("1;2;3;4"), "column 1 of 1", x -> x.factor(0, 0, 1), NO_SUCH);
        stays(Sheet::full, "column 4 of 4", x -> x.factor(0, 3, 4), NO_SUCH);
    }

    @Sentence("BAD_VALUE if both are the same")
    static void factorOfItself() {
        factorFails(0, 0, 0, BAD_VALUE);
        factorFails(0, 1, 1, BAD_VALUE);
        factorFails(1, 2, 2, BAD_VALUE);
        stays(TropicRanks::new, "the only column", x -> x.factor(0, 0, 0), BAD_VALUE);
    }

    @Sentence("The first error that applies: NO_SUCH, BAD_VALUE")
    static void factorErrorsInOrder() {
        factorFails(3, 0, 0, NO_SUCH);
        factorFails(0, 2, 2, NO_SUCH);
        factorFails(0, -1, -1, NO_SUCH);
    }

    // ---- promise 18: byCone

    private static void staying(String text, boolean isRows, int set) {
        String call = "byCone of " + text + (isRows ? ", rows" : ", columns");
        stays(having(text), call + ", what 0", x -> x.byCone(0, isRows, 0), Integer.bitCount(set));
        stays(having(text), call + ", what 1", x -> x.byCone(0, isRows, 1), set);
    }

    @Sentence("The columns are gone through in their order; one that comes from all others that did not go so far goes")
    static void byConeInTheirOrder() {
        staying("1,2;3,4", false, 2);
        staying("1,2;3,4", true, 2);
        staying("1,2,3;4,5,6", false, 4);
        staying("1,2,3;4,5,6", true, 2);
        staying(TWELVE_ZEROS, false, 8);
        staying(TWELVE_ZEROS, true, 4);
    }

    @Sentence("(those behind it, too)")
    static void byConeOfThoseBehind() {
        staying("0,0,9;5,5,5;0,9,0", false, 6);
        staying("0,0,9;5,5,5;9,0,0", false, 5);
        staying("0,9,0;5,5,5;9,0,0", false, 3);
    }

    @Sentence("(A column depends on no columns not at all.) the last one does not go")
    static void byConeOfTheLastOne() {
        staying("0", false, 1);
        staying("0", true, 1);
        staying("7;7;7;7", false, 1);
        staying("7;7;7;7", true, 8);
        staying("7,7,7,7", false, 8);
        staying("7,7,7,7", true, 1);
    }

    @Sentence("The rank by columns is the number of columns that do not go: all of them")
    static void byConeIfNoneGoes() {
        staying("0,1;1,0", false, 3);
        staying("0,1;1,0", true, 3);
        staying(DIAGONAL, false, 7);
        staying(SQUARES, false, 15);
        staying(SQUARES, true, 7);
    }

    @Sentence("The rank by rows is that of the array turned over")
    static void byConeTurned() {
        staying(SQUARES_TURNED, false, 7);
        staying(SQUARES_TURNED, true, 15);
        staying("0,1,0,1;0,1,1,0;1,0,0,0", false, 15);
        staying("0,1,0,1;0,1,1,0;1,0,0,0", true, 7);
        staying("0,5,9;0,5,0;9,5,0", true, 5);
    }

    @Sentence("NO_SUCH if there is no such array; BAD_VALUE if what is neither 0 nor 1")
    static void byConeErrors() {
        for (int array : NO_ARRAYS) {
            stays(Sheet::busy, "byCone " + array, x -> x.byCone(array, false, 0), NO_SUCH);
            stays(Sheet::busy, "byCone " + array, x -> x.byCone(array, true, 2), NO_SUCH);
        }
        for (int what : new int[] {-1, 2, 3, LOWEST, HIGHEST}) {
            stays(Sheet::busy, "byCone, what " + what, x -> x.byCone(0, false, what), BAD_VALUE);
            stays(Sheet::busy, "byCone, what " + what, x -> x.byCone(0, true, what), BAD_VALUE);
        }
    }

    // ---- promise 20: ring

    private static void ringsOf(String text, int... wants) {
        for (int what = 0; what < wants.length; what++) {
            int asked = what;
            stays(having(text), "ring of " + text + ", " + WHATS[what], x -> x.ring(0, asked), wants[what]);
        }
    }

    @Sentence("0 rings, how many (one that goes over the same steps from another number on is the same)")
    static void ringNumbers() {
        ringsOf("5", 1);
        ringsOf("5,1;2,2", 3);
        ringsOf("9,1,9;9,9,1;1,9,9", 8);
        ringsOf("0,0,0;0,0,0;0,0,0", 8);
    }

    @Sentence("also over a single one")
    static void ringOfOneNumber() {
        ringsOf("0", 1, 0, 1);
        ringsOf("999", 1, 999, 1);
        ringsOf("4,9;9,9", 3, 4, 1);
        ringsOf("9,9;9,4", 3, 4, 1);
        ringsOf("9,9,9;9,4,9;9,9,9", 8, 4, 1);
        ringsOf("9,9,9;9,9,9;9,9,4", 8, 4, 1);
    }

    @Sentence("its sum is that of the entries (k(0), k(1)), (k(1), k(2)) and so on, and back to k(0)")
    static void ringOfEachKind() {
        ringsOf("9,1;2,9", 3, 3, 2);
        ringsOf("9,1,9;2,9,9;9,9,9", 8, 3, 2);
        ringsOf("9,9,1;9,9,9;2,9,9", 8, 3, 2);
        ringsOf("9,9,9;9,9,1;9,2,9", 8, 3, 2);
        ringsOf("9,1,9;9,9,2;3,9,9", 8, 6, 3);
        ringsOf("9,9,1;2,9,9;9,3,9", 8, 6, 3);
    }

    @Sentence("its mean is its sum divided by how many numbers it has: not rounded")
    static void ringMeans() {
        ringsOf("2,1,9;2,2,1;2,9,2", 8, 4, 3);
        ringsOf("2,1,9;2,2,2;2,9,2", 8, 3, 2);
        ringsOf("999,998;999,999", 3, 1997, 2);
        ringsOf("998,998;999,999", 3, 998, 1);
        ringsOf("999,999,999;999,999,999;998,999,999", 8, 1997, 2);
    }

    @Sentence("of several of one with the fewest numbers")
    static void ringOfFewestNumbers() {
        ringsOf("2,2,2;2,2,2;2,2,2", 8, 2, 1);
        ringsOf("5,1;3,2", 3, 2, 1);
        ringsOf("9,2,9;2,9,2;2,9,9", 8, 4, 2);
        ringsOf("9,2,9;9,9,2;2,2,9", 8, 4, 2);
        ringsOf("9,2,9;2,9,9;9,9,2", 8, 2, 1);
        ringsOf("0,0;0,0", 3, 0, 1);
        ringsOf("5,0;0,5", 3, 0, 2);
        ringsOf("5,0,5;5,5,0;0,5,5", 8, 0, 3);
    }

    private static void ringFails(int array, int what, int error) {
        stays(Sheet::busy, "ring " + array + " " + what, x -> x.ring(array, what), error);
    }

    @Sentence("NO_SUCH if there is no such array; BAD_VALUE if what is out of range")
    static void ringOfNoWhat() {
        for (int array : NO_ARRAYS) {
            ringFails(array, 0, NO_SUCH);
        }
        for (int what : new int[] {-1, 3, 4, LOWEST, HIGHEST}) {
            ringFails(0, what, BAD_VALUE);
        }
    }

    @Sentence("NOT_POSSIBLE if it has not as many rows as columns")
    static void ringOfNoSquare() {
        for (int what = 0; what < 3; what++) {
            ringFails(1, what, NOT_POSSIBLE);
        }
        for (String text : new String[] {"1,2", "1;2", "1,2,3;4,5,6", "1,2;3,4;5,6", "1;2;3;4", TWELVE_ZEROS}) {
            ringsOf(text, NOT_POSSIBLE, NOT_POSSIBLE, NOT_POSSIBLE);
        }
    }

    @Sentence("The first error that applies: NO_SUCH, BAD_VALUE, NOT_POSSIBLE")
    static void ringErrorsInOrder() {
        ringFails(3, 3, NO_SUCH);
        ringFails(-1, -1, NO_SUCH);
        ringFails(1, 3, BAD_VALUE);
        ringFails(1, -1, BAD_VALUE);
    }

    // ---- promise 22: ifSet

    private static void ranksIf(String text, int row, int column, int value, int... wants) {
        for (int what = 0; what < wants.length; what++) {
            int asked = what;
            stays(having(text), "ifSet of " + text + " " + row + " " + column + " " + value + ", " + WHATS[what],
                    x -> x.ifSet(0, row, column, value, asked), wants[what]);
        }
    }

    @Sentence("0 the rank by parts, 1 the rank by covers, 2 the rank by columns, 3 the rank by rows")
    static void ifSetEachRank() {
        ranksIf("0,0,9;0,1,0;1,0,0", 0, 2, 1, 2, 3, 3, 3);
        ranksIf("0,1,0,1;0,1,1,0;1,0,0,7", 2, 3, 0, 3, 3, 4, 3);
        ranksIf("9,0,1;1,1,0;0,1,0;1,0,0", 0, 0, 0, 3, 3, 3, 4);
        ranksIf("1,2;3,4", 0, 0, 0, 2, 2, 2, 2);
        ranksIf("1,2;3,5", 1, 1, 4, 1, 1, 1, 1);
        ranksIf("5", 0, 0, 7, 1, 1, 1, 1);
    }

    @Sentence("value: 0 to 999; BAD_VALUE if another argument is out of range")
    static void ifSetLeastAndGreatestValue() {
        ranksIf("0,0;0,0", 1, 1, 999, 2, 2, 2, 2);
        ranksIf("0,0;0,999", 1, 1, 0, 1, 1, 1, 1);
        ranksIf("999,999;999,0", 1, 1, 999, 1, 1, 1, 1);
        for (int value : new int[] {-1, 1000, 1001, LOWEST, HIGHEST}) {
            ranksIf("0,0;0,0", 1, 1, value, BAD_VALUE, BAD_VALUE, BAD_VALUE, BAD_VALUE);
        }
        for (int what : new int[] {-1, 4, 5, LOWEST, HIGHEST}) {
            stays(Sheet::busy, "ifSet, what " + what, x -> x.ifSet(0, 0, 0, 0, what), BAD_VALUE);
        }
    }

    @Sentence("if an entry was another one: that entry, at each place")
    static void ifSetEachEntry() {
        for (int place = 0; place < 12; place++) {
            StringBuilder text = new StringBuilder("5,5,5,5;5,5,5,5;5,5,5,5");
            text.setCharAt(2 * place, '7');
            for (int other = 0; other < 12; other++) {
                int rank = other == place ? 1 : 2;
                ranksIf(text.toString(), other / 4, other % 4, 5, rank, rank, rank, rank);
            }
        }
    }

    @Sentence("NO_SUCH if there is no such array or entry")
    static void ifSetNoEntry() {
        for (int array : NO_ARRAYS) {
            stays(Sheet::busy, "ifSet " + array, x -> x.ifSet(array, 0, 0, 0, 0), NO_SUCH);
        }
        for (int number : new int[] {-1, 2, 3, LOWEST, HIGHEST}) {
            stays(Sheet::busy, "ifSet, row " + number, x -> x.ifSet(0, number, 0, 0, 0), NO_SUCH);
            stays(Sheet::busy, "ifSet, column " + number, x -> x.ifSet(0, 0, number, 0, 0), NO_SUCH);
        }
        stays(Sheet::busy, "ifSet, row 1 of 1", x -> x.ifSet(1, 1, 0, 0, 0), NO_SUCH);
        stays(Sheet::busy, "ifSet, column 3 of 3", x -> x.ifSet(1, 0, 3, 0, 0), NO_SUCH);
        stays(Sheet::full, "ifSet, column 4 of 4", x -> x.ifSet(0, 0, 4, 0, 0), NO_SUCH);
        stays(Sheet::full, "ifSet, row 4 of 4", x -> x.ifSet(1, 4, 0, 0, 0), NO_SUCH);
    }

    @Sentence("The first error that applies: NO_SUCH, BAD_VALUE")
    static void ifSetErrorsInOrder() {
        stays(Sheet::busy, "no array, value", x -> x.ifSet(3, 0, 0, 1000, 0), NO_SUCH);
        stays(Sheet::busy, "no row, what", x -> x.ifSet(0, 2, 0, 0, 4), NO_SUCH);
        stays(Sheet::busy, "no column, value, what", x -> x.ifSet(0, 0, -1, -1, -1), NO_SUCH);
    }

    // ---- promise 23: bestZero

    private static void bestIn(String text, int want) {
        stays(having(text), "bestZero of " + text, x -> x.bestZero(0), want);
    }

    @Sentence("Finds the entry which, if it was 0, would leave the least rank by covers. Returns the place")
    static void bestZeroAtEachPlace() {
        bestIn("1,5;3,4", 2);
        bestIn("7,3;1,4", 0);
        bestIn("1,9;5,4", 1);
        bestIn("4,3;1,7", 3);
        bestIn("4,4;7,7;0,5", 5);
        bestIn("4,7,0;4,7,5", 5);
        bestIn("5,6,7,0;5,6,7,9;5,6,7,0", 7);
        bestIn("5,6,7,0;5,6,7,0;5,6,7,9", 11);
        bestIn("5,6,0;5,6,9;5,6,0;5,6,0", 5);
        bestIn("5,6,0;5,6,0;5,6,0;5,6,9", 11);
    }

    @Sentence("of several the lowest place")
    static void bestZeroOfSeveral() {
        bestIn("0", 0);
        bestIn("9", 0);
        bestIn("0,1;1,0", 0);
        bestIn("1,2,3", 0);
        bestIn("1;2;3;4", 0);
        bestIn(TWELVE_ZEROS, 0);
        bestIn("1,2;3,4", 0);
        bestIn("2,2;2,2", 0);
        // With 0 at the place 1, or at the place 2, it would be 4 + 0 against 0 + 4.
        bestIn("4,4;4,0", 1);
    }

    @Sentence("NO_SUCH if there is no such array")
    static void bestZeroOfNoArray() {
        for (int array : NO_ARRAYS) {
            stays(Sheet::busy, "bestZero " + array, x -> x.bestZero(array), NO_SUCH);
        }
        stays(Sheet::busy, "bestZero 1", x -> x.bestZero(1), 0);
        stays(Sheet::full, "bestZero 2", x -> x.bestZero(2), 0);
    }
}
