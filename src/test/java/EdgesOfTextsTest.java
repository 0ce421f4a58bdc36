import java.util.function.Supplier;

/** The edges of the promises 24 to 26: put, wipe, fault. */
public final class EdgesOfTextsTest extends Sheet {
    private static final String SEVENTY_NINE = "1,".repeat(39) + "1";

    public static void main(String[] args) throws IllegalAccessException {
        runSentences(EdgesOfTextsTest.class);
    }

    private static Supplier<TropicRanks> writing(String text) {
        return () -> {
            TropicRanks x = busy();
            x.wipe();
            write(x, text);
            return x;
        };
    }

    private static void putFails(Supplier<TropicRanks> made, long characters, int error) {
        stays(made, "put " + Long.toHexString(characters), x -> x.put(characters), error);
    }

    // ---- promise 24: put

    @Sentence("1 to 8 characters; returns the length of the pad then")
    static void putOneToEight() {
        String text = "12,34;56";
        for (int length = 1; length <= 8; length++) {
            TropicRanks x = new TropicRanks();
            due("put " + length, x.put(packed(text.substring(0, length))), length);
            due("length", x.count(1), length);
            due("put as many again", x.put(packed(text.substring(0, length))), 2 * length);
        }
    }

    @Sentence("its lowest 8 bits are the last character, the next 8 bits the one before, and so on")
    static void putInTheirOrder() {
        TropicRanks x = new TropicRanks();
        due("put", x.put(0x31322C33343B3536L), 8);
        due("put", x.put(0x2C37L), 10);
        due("put", x.put(0x38L), 11);
        due("load", x.load(0), 4);
        dueArray(x, 0, "12,34;56,78");
    }

    @Sentence("Appends characters to the pad")
    static void putBehindWhatIsThere() {
        TropicRanks x = new TropicRanks();
        for (char character : "1,20;3,400".toCharArray()) {
            x.put(character);
        }
        due("load", x.load(2), 4);
        dueArray(x, 2, "1,20;3,400");
        due("put after load", x.put('7'), 1);
        due("wipe", x.wipe(), 1);
        due("put after wipe", x.put('8'), 1);
        due("load", x.load(2), 1);
        dueArray(x, 2, "8");
    }

    @Sentence("put is not a change: only the pad is different then")
    static void putIsNoChange() {
        TropicRanks x = busy();
        due("put", x.put(packed("9")), 4);
        due("changes", x.count(2), 4);
        dueArrays(x, BUSY);
        TropicRanks twin = busy();
        x.wipe();
        twin.wipe();
        dueAlike("after put and wipe", x, twin);
    }

    @Sentence("BAD_VALUE if there is no character")
    static void putNothing() {
        putFails(Sheet::busy, 0, BAD_VALUE);
        putFails(TropicRanks::new, 0, BAD_VALUE);
    }

    @Sentence("BAD_VALUE if a code is not 33 to 126")
    static void putEachCode() {
        for (int code = 1; code < 256; code++) {
            TropicRanks x = new TropicRanks();
            due("put " + code, x.put(code), code >= 33 && code <= 126 ? 1 : BAD_VALUE);
            due("length", x.count(1), code >= 33 && code <= 126 ? 1 : 0);
        }
        for (int code : new int[] {1, 32, 127, 128, 255}) {
            putFails(Sheet::busy, code, BAD_VALUE);
        }
    }

    @Sentence("BAD_VALUE if a code is not 33 to 126: at each of the eight")
    static void putEachCodeAtEachPlace() {
        for (int place = 0; place < 8; place++) {
            long rest = 0x3131313131313131L & ~(255L << 8 * place);
            for (int code : new int[] {1, 32, 127, 128, 255}) {
                putFails(Sheet::busy, rest | (long) code << 8 * place, BAD_VALUE);
            }
            for (int code : new int[] {33, 126}) {
                due("put " + code, busy().put(rest | (long) code << 8 * place), 11);
            }
        }
        putFails(Sheet::busy, -1, BAD_VALUE);
        putFails(Sheet::busy, Long.MIN_VALUE, BAD_VALUE);
        putFails(Sheet::busy, Long.MAX_VALUE, BAD_VALUE);
        putFails(Sheet::busy, 1L << 32, BAD_VALUE);
    }

    @Sentence("BAD_VALUE if a bit above 8 bits that are 0 is not 0")
    static void putAboveAGap() {
        for (int gap = 0; gap < 7; gap++) {
            long below = 0x3131313131313131L & (1L << 8 * gap) - 1;
            for (int bit = 8 * gap + 8; bit < 64; bit++) {
                putFails(TropicRanks::new, below | 1L << bit, BAD_VALUE);
            }
            putFails(Sheet::busy, below | 0x31L << 8 * gap + 8, BAD_VALUE);
        }
    }

    @Sentence("8 bits that are 0 mean that there are no more characters")
    static void putBelowAGap() {
        due("put one", new TropicRanks().put(0x31L), 1);
        due("put four", new TropicRanks().put(0x31313131L), 4);
        due("put five", new TropicRanks().put(0x3131313131L), 5);
        due("put seven", new TropicRanks().put(0x31313131313131L), 7);
        due("put eight", new TropicRanks().put(0x7E31313131313131L), 8);
    }

    @Sentence("TOO_MANY if the pad would be longer than 80")
    static void putToTheEnd() {
        for (int length = 72; length <= 80; length++) {
            String text = SEVENTY_NINE.concat("1").substring(0, length);
            for (int more = 1; more <= 8; more++) {
                long characters = packed("11111111".substring(0, more));
                if (length + more > 80) {
                    putFails(writing(text), characters, TOO_MANY);
                } else {
                    due("put " + more + " to " + length, writing(text).get().put(characters), length + more);
                }
            }
        }
    }

    @Sentence("The first error that applies: BAD_VALUE, TOO_MANY")
    static void putErrorsInOrder() {
        putFails(Sheet::full, 0, BAD_VALUE);
        putFails(Sheet::full, 32, BAD_VALUE);
        putFails(Sheet::full, 0x310031, BAD_VALUE);
        putFails(Sheet::full, 0x313100, BAD_VALUE);
        putFails(Sheet::full, 0x31, TOO_MANY);
        putFails(writing(SEVENTY_NINE), 0x3120, BAD_VALUE);
        putFails(writing(SEVENTY_NINE), 0x3131, TOO_MANY);
    }

    // ---- promise 25: wipe

    @Sentence("Empties the pad, and returns the length that it had: 0, 1, 79, 80")
    static void wipeEachLength() {
        for (int length : new int[] {0, 1, 8, 79, 80}) {
            TropicRanks x = writing(SEVENTY_NINE.concat("1").substring(0, length)).get();
            due("wipe", x.wipe(), length);
            due("length", x.count(1), 0);
            due("fault", x.fault(), 0);
            due("wipe again", x.wipe(), 0);
        }
    }

    @Sentence("wipe is not a change: only the pad is different then")
    static void wipeIsNoChange() {
        TropicRanks x = busy();
        due("wipe", x.wipe(), 3);
        write(x, "8;8");
        dueAlike("after wipe and put", x, busy());
        stays(TropicRanks::new, "wipe an empty pad", TropicRanks::wipe, 0);
    }

    @Sentence("Empties the pad: what is put then stands alone, and 80 characters fit again")
    static void wipeAndPut() {
        TropicRanks x = full();
        due("wipe", x.wipe(), 80);
        write(x, SEVENTY_NINE);
        due("put", x.put('9'), 80);
        due("wipe", x.wipe(), 80);
        write(x, "3");
        due("fault", x.fault(), NONE);
        due("load", x.load(0), 1);
        dueArray(x, 0, "3");
    }

    // ---- promise 26: fault

    private static void faultIn(String text, int want) {
        stays(writing(text), "fault of " + text, TropicRanks::fault, want);
    }

    @Sentence("Returns the fault of the pad, NONE if there is none")
    static void faultNone() {
        for (String text : new String[] {"0", "9", "10", "99", "100", "999", "0,0", "1;2", "1,2;3", "999,0;10,5"}) {
            faultIn(text, NONE);
        }
    }

    @Sentence("NONE (-6) is not an error; it is returned only if no error applies")
    static void faultNoneIsNotAnError() {
        TropicRanks x = writing("4,5").get();
        due("fault", x.fault(), -6);
        due("load", x.load(0), 2);
        due("fault of an empty pad", x.fault(), 0);
    }

    @Sentence("the index of the first character that cannot stand at its place: at the start")
    static void faultAtTheStart() {
        for (int code = 33; code <= 126; code++) {
            boolean isDigit = code >= '0' && code <= '9';
            faultIn(String.valueOf((char) code), isDigit ? NONE : 0);
            faultIn((char) code + "1", isDigit && code != '0' ? NONE : isDigit ? 1 : 0);
        }
    }

    @Sentence("the first character that cannot stand at its place: within an entry")
    static void faultWithinAnEntry() {
        for (int code = 33; code <= 126; code++) {
            boolean canStand = code >= '0' && code <= '9';
            boolean goesOn = code == ',' || code == ';';
            faultIn("1" + (char) code, canStand ? NONE : goesOn ? 2 : 1);
            faultIn("1" + (char) code + "2", canStand || goesOn ? NONE : 1);
        }
    }

    @Sentence("the first character that cannot stand at its place: after , and after ;")
    static void faultAfterACommaOrSemicolon() {
        for (int code = 33; code <= 126; code++) {
            boolean isDigit = code >= '0' && code <= '9';
            faultIn("1," + (char) code, isDigit ? NONE : 2);
            faultIn("1;" + (char) code, isDigit ? NONE : 2);
        }
        faultIn("1,,", 2);
        faultIn("1;;", 2);
        faultIn("1,;2", 2);
        faultIn("1;,2", 2);
    }

    @Sentence("the first of several, when the text is read from left to right")
    static void faultOfSeveral() {
        faultIn("1,x,y", 2);
        faultIn("x1000", 0);
        faultIn("1000x", 3);
        faultIn("01;02", 1);
        faultIn("1,2;3,4x,,", 7);
        faultIn("12,34,5a", 7);
        faultIn("1,2;;3,", 4);
    }

    @Sentence("an entry is a number from 0 to 999 without leading zeros")
    static void faultOfLeadingZeros() {
        faultIn("0", NONE);
        faultIn("00", 1);
        faultIn("01", 1);
        faultIn("09", 1);
        faultIn("1,00", 3);
        faultIn("1;05", 3);
        faultIn("10", NONE);
        faultIn("100", NONE);
        faultIn("0,0;0,0", NONE);
        faultIn("101,0,10;00", 10);
    }

    @Sentence("(also of a digit by which an entry would be above 999)")
    static void faultAboveGreatest() {
        faultIn("999", NONE);
        faultIn("1000", 3);
        faultIn("9990", 3);
        faultIn("9999", 3);
        faultIn("10000", 3);
        faultIn("1,2;1000", 7);
        faultIn("999,9999", 7);
        faultIn("998;999,1000;1", 11);
        faultIn("1" + "0".repeat(79), 3);
    }

    @Sentence("how many rows and entries there are does not matter for it")
    static void faultOfManyRowsAndEntries() {
        faultIn("1;2;3;4;5", NONE);
        faultIn("1,2,3,4,5", NONE);
        faultIn("1,2;3", NONE);
        faultIn("1;2,3", NONE);
        faultIn(SEVENTY_NINE, NONE);
        faultIn("1;".repeat(39) + "1", NONE);
        faultIn("1;2,".repeat(19) + "1", NONE);
        faultIn("1;2;3;4;5;x", 10);
        faultIn("1,2,3,4,5,,", 10);
    }

    @Sentence("if there is none and the text ends too early (also if it is empty), it is the length of the text")
    static void faultAtTheEnd() {
        faultIn("", 0);
        faultIn("1,", 2);
        faultIn("1;", 2);
        faultIn("12,345;", 7);
        faultIn("1;2;3;4;5;", 10);
        faultIn("1,".repeat(40), 80);
        faultIn("1;".repeat(40), 80);
        stays(TropicRanks::new, "fault of a new object", TropicRanks::fault, 0);
    }

    @Sentence("The pad is a text of at most 80 characters: its last character, too")
    static void faultAtTheLastOfEighty() {
        faultIn(SEVENTY_NINE + "2", NONE);
        faultIn(SEVENTY_NINE + "x", 79);
        faultIn("0,".repeat(39) + "00", 79);
        faultIn("1,".repeat(38) + "1000", 79);
        faultIn("1,".repeat(38) + "1,,1", 78);
        faultIn(SEVENTY_NINE, NONE);
        faultIn(SEVENTY_NINE.substring(0, 78), 78);
    }
}
