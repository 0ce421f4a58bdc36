import java.util.ArrayList;
import java.util.List;
import java.util.function.ToIntFunction;

/** The edges of the promises 27 to 29: undo, save, restore. */
public final class EdgesOfHistoryTest extends Sheet {
    public static void main(String[] args) throws IllegalAccessException {
        runSentences(EdgesOfHistoryTest.class);
    }

    /** A call by its name. */
    private record Call(String name, ToIntFunction<TropicRanks> call) {
        int on(TropicRanks x) {
            return call.applyAsInt(x);
        }
    }

    /** One call of each method that is a change, all possible on a busy object. */
    private static List<Call> changesOfEachMethod() {
        return List.of(
                new Call("load", x -> x.load(1)),
                new Call("set", x -> x.set(0, 1, 0, 500)),
                new Call("raise", x -> x.raise(2, false, 1, 3)),
                new Call("exchange", x -> x.exchange(2, true, 0, 2)),
                new Call("drop", x -> x.drop(2, false, 1)),
                new Call("turn", x -> x.turn(1)),
                new Call("product", x -> x.product(0, 0, 1)),
                new Call("close", x -> x.close(2)),
                new Call("restore", x -> x.restore(1)));
    }

    /** One call of each method that is no change, all answered without an error by a busy object. */
    private static List<Call> noChanges() {
        return List.of(
                new Call("entry", x -> x.entry(0, 1, 1)),
                new Call("permanent", x -> x.permanent(2, 7, 7, 0)),
                new Call("byParts", x -> x.byParts(2, 0)),
                new Call("canTouch", x -> x.canTouch(0, 9)),
                new Call("byCovers", x -> x.byCovers(2, 0)),
                new Call("cover", x -> x.cover(2, 8)),
                new Call("cone", x -> x.cone(2, 0, 6, 1)),
                new Call("factor", x -> x.factor(2, 0, 1)),
                new Call("byCone, columns", x -> x.byCone(2, false, 1)),
                new Call("byCone, rows", x -> x.byCone(1, true, 1)),
                new Call("arrayOf", x -> x.arrayOf(1, 1)),
                new Call("ring", x -> x.ring(2, 1)),
                new Call("count", x -> x.count(0)),
                new Call("ifSet, parts", x -> x.ifSet(2, 0, 0, 0, 0)),
                new Call("ifSet, covers", x -> x.ifSet(2, 0, 0, 0, 1)),
                new Call("ifSet, columns", x -> x.ifSet(1, 0, 0, 999, 2)),
                new Call("ifSet, rows", x -> x.ifSet(1, 0, 0, 999, 3)),
                new Call("bestZero", x -> x.bestZero(2)),
                new Call("fault", TropicRanks::fault));
    }

    // ---- promise 27: undo

    @Sentence("Undoes the latest change: everything except the pad, the slots and the history is as it was before it")
    static void undoOfEachMethod() {
        for (Call change : changesOfEachMethod()) {
            TropicRanks x = busy();
            due(change.name + " succeeds", change.on(x) >= 0 ? 1 : 0, 1);
            due("undo of " + change.name, x.undo(), 4);
            TropicRanks twin = busy();
            if (change.name.equals("load")) {
                twin.wipe();
            }
            dueAlike("undone " + change.name, x, twin);
        }
    }

    @Sentence("each method that is a change, and returns no error, records the state before it")
    static void undoRecordsEachMethod() {
        for (Call change : changesOfEachMethod()) {
            TropicRanks x = busy();
            change.on(x);
            due("changes after " + change.name, x.count(2), 5);
        }
    }

    @Sentence("(also if nothing is different then)")
    static void undoOfWhatMadeNothingDifferent() {
        TropicRanks x = with("0,0;0,0", "5");
        x.save(0);
        due("changes", x.count(2), 2);
        due("load the same", loadAgain(x, "0,0;0,0"), 4);
        due("set the same", x.set(0, 0, 0, 0), 0);
        due("raise by 0", x.raise(0, true, 0, 0), 0);
        due("exchange what is like", x.exchange(0, true, 0, 1), 0);
        due("changes", x.count(2), 6);
        TropicRanks y = with("0,0;0,0");
        y.save(0);
        due("turn", y.turn(0), 2);
        due("product", y.product(0, 0, 0), 4);
        due("close", y.close(0), 0);
        due("restore", y.restore(0), 6);
        due("changes", y.count(2), 5);
        for (int left = 4; left >= 0; left--) {
            due("undo", y.undo(), left);
            dueArray(y, 0, left > 0 ? "0,0;0,0" : "0");
        }
        due("no more", y.undo(), NOT_POSSIBLE);
    }

    private static int loadAgain(TropicRanks x, String text) {
        write(x, text);
        return x.load(0);
    }

    @Sentence("a method that is no change records nothing")
    static void undoOfWhatIsNoChange() {
        for (Call call : noChanges()) {
            stays(Sheet::busy, call.name, call::on, call.on(busy()));
            due(call.name + " succeeds", call.on(busy()) >= 0 || call.on(busy()) == NONE ? 1 : 0, 1);
            stays(Sheet::full, call.name, call::on, call.on(full()));
        }
        TropicRanks x = busy();
        due("put", x.put('1'), 4);
        due("changes", x.count(2), 4);
        due("wipe", x.wipe(), 4);
        due("changes", x.count(2), 4);
        due("save", x.save(0), 16);
        due("changes", x.count(2), 4);
        due("undo", x.undo(), 3);
        due("changes", x.count(2), 3);
    }

    @Sentence("A method that returns an error records nothing")
    static void undoOfErrors() {
        List<Call> errors = List.of(
                new Call("load", x -> x.load(3)),
                new Call("set", x -> x.set(0, 0, 0, 1000)),
                new Call("raise", x -> x.raise(0, true, 0, 999)),
                new Call("exchange", x -> x.exchange(0, true, 1, 1)),
                new Call("drop", x -> x.drop(1, true, 0)),
                new Call("turn", x -> x.turn(-1)),
                new Call("product", x -> x.product(0, 1, 2)),
                new Call("close", x -> x.close(1)),
                new Call("restore", x -> x.restore(2)));
        for (Call error : errors) {
            stays(Sheet::busy, error.name, error::on, error.on(busy()));
            due(error.name + " fails", error.on(busy()) < 0 ? 1 : 0, 1);
            stays(EdgesOfHistoryTest::busyWithSixStates, error.name, error::on, error.on(busy()));
        }
    }

    /** A busy object that changed twice more, so that its history is full. */
    private static TropicRanks busyWithSixStates() {
        TropicRanks x = busy();
        x.turn(0);
        x.turn(0);
        due("changes", x.count(2), 6);
        return x;
    }

    @Sentence("when one more is recorded, the oldest one is dropped: by each method that is a change")
    static void undoOfEachMethodAfterSixStates() {
        for (Call change : changesOfEachMethod()) {
            TropicRanks x = busyWithSixStates();
            due(change.name + " succeeds", change.on(x) >= 0 ? 1 : 0, 1);
            due("changes after " + change.name, x.count(2), 6);
            due("undo of " + change.name, x.undo(), 5);
            dueArrays(x, BUSY);
            for (int left = 4; left >= 0; left--) {
                due("undo after " + change.name, x.undo(), left);
            }
            // That of the new object is the one that was dropped.
            dueArrays(x, "1,2;3,4", "0", "0");
            due("no more after " + change.name, x.undo(), NOT_POSSIBLE);
            dueArrays(x, "1,2;3,4", "0", "0");
        }
    }

    @Sentence("A history of at most 6 states is kept: when one more is recorded, the oldest one is dropped")
    static void undoOfSixStates() {
        for (int changes = 0; changes <= 20; changes++) {
            TropicRanks x = new TropicRanks();
            for (int value = 1; value <= changes; value++) {
                x.set(1, 0, 0, value);
            }
            int kept = Math.min(changes, 6);
            due("changes", x.count(2), kept);
            for (int back = 1; back <= kept; back++) {
                due("undo", x.undo(), kept - back);
                due("entry", x.entry(1, 0, 0), changes - back);
            }
            due("no more", x.undo(), NOT_POSSIBLE);
            due("entry", x.entry(1, 0, 0), changes - kept);
            due("changes", x.count(2), 0);
        }
    }

    @Sentence("the latest change: also after changes were undone, and others made")
    static void undoAfterUndo() {
        for (int undone = 1; undone <= 6; undone++) {
            for (int more = 1; more <= 8; more++) {
                TropicRanks x = new TropicRanks();
                List<Integer> before = new ArrayList<>();
                for (int value = 1; value <= 9; value++) {
                    keep(before, x.set(0, 0, 0, value));
                }
                for (int back = 0; back < undone; back++) {
                    due("undo", x.undo(), before.size() - 1);
                    due("entry", x.entry(0, 0, 0), before.remove(before.size() - 1));
                }
                for (int value = 101; value <= 100 + more; value++) {
                    keep(before, x.set(0, 0, 0, value));
                }
                while (!before.isEmpty()) {
                    due("undo", x.undo(), before.size() - 1);
                    due("entry", x.entry(0, 0, 0), before.remove(before.size() - 1));
                }
                due("no more", x.undo(), NOT_POSSIBLE);
            }
        }
    }

    /** What a second history would keep. */
    private static void keep(List<Integer> states, int state) {
        states.add(state);
        if (states.size() > 6) {
            states.remove(0);
        }
    }

    @Sentence("everything except the pad: neither what was put nor what was wiped comes back")
    static void undoLeavesThePad() {
        TropicRanks x = busy();
        x.wipe();
        write(x, "7,7");
        due("undo", x.undo(), 3);
        due("length", x.count(1), 3);
        due("load", x.load(0), 2);
        dueArray(x, 0, "7,7");
        due("undo of load", x.undo(), 3);
        due("length", x.count(1), 0);
        TropicRanks y = full();
        due("undo", y.undo(), 5);
        due("length", y.count(1), 80);
    }

    @Sentence("everything except the slots: what was saved stays")
    static void undoLeavesTheSlots() {
        TropicRanks x = new TropicRanks();
        x.set(0, 0, 0, 1);
        x.save(0);
        x.set(0, 0, 0, 2);
        x.save(1);
        x.set(0, 0, 0, 3);
        for (int left = 2; left >= 0; left--) {
            due("undo", x.undo(), left);
        }
        due("restore 1", x.restore(1), 3);
        due("entry", x.entry(0, 0, 0), 2);
        due("restore 0", x.restore(0), 3);
        due("entry", x.entry(0, 0, 0), 1);
    }

    @Sentence("NOT_POSSIBLE if there is none")
    static void undoOfNothing() {
        stays(TropicRanks::new, "undo of a new object", TropicRanks::undo, NOT_POSSIBLE);
        TropicRanks x = busy();
        for (int left = 3; left >= 0; left--) {
            due("undo", x.undo(), left);
        }
        dueArrays(x, "0", "0", "0");
        due("no more", x.undo(), NOT_POSSIBLE);
        due("no more", x.undo(), NOT_POSSIBLE);
        dueArrays(x, "0", "0", "0");
        due("changes", x.count(2), 0);
        due("a change", x.set(0, 0, 0, 4), 0);
        due("undo", x.undo(), 0);
        due("no more", x.undo(), NOT_POSSIBLE);
    }

    // ---- promise 28: save

    @Sentence("Saves everything except the pad, the history and the slots. Returns how many entries all arrays have")
    static void saveEverything() {
        for (int slot = 0; slot < 2; slot++) {
            TropicRanks x = with(BUSY);
            due("save", x.save(slot), 16);
            due("set", x.set(0, 0, 0, 999), 6);
            due("turn", x.turn(1), 3);
            due("drop", x.drop(2, true, 1), 6);
            due("restore", x.restore(slot), 16);
            dueArrays(x, BUSY);
        }
        due("least", new TropicRanks().save(0), 3);
        due("greatest", with(FULL[0], FULL[1], "1,2,3,4;1,2,3,4;1,2,3,4").save(1), 36);
    }

    @Sentence("save is not a change: only the slot is different then")
    static void saveIsNoChange() {
        TropicRanks x = busy();
        due("save", x.save(0), 16);
        due("changes", x.count(2), 4);
        due("pad", x.count(1), 3);
        dueArrays(x, BUSY);
        TropicRanks twin = busy();
        for (int left = 3; left >= 0; left--) {
            due("undo", x.undo(), left);
            twin.undo();
            dueAlikeArrays("undone", x, twin);
        }
        due("restore", x.restore(0), 16);
        dueArrays(x, BUSY);
    }

    @Sentence("and overwrites what was saved there")
    static void saveOver() {
        for (int slot = 0; slot < 2; slot++) {
            TropicRanks x = with("1,2,3,4;5,6,7,8;9,10,11,12");
            due("save", x.save(slot), 14);
            due("drop", x.drop(0, true, 0), 8);
            due("save over it", x.save(slot), 10);
            due("drop", x.drop(0, true, 0), 4);
            due("restore", x.restore(slot), 10);
            dueArrays(x, "5,6,7,8;9,10,11,12", "0", "0");
        }
    }

    @Sentence("in a slot: each of the two is its own")
    static void saveInBoth() {
        TropicRanks x = with("1,2");
        due("save 0", x.save(0), 4);
        due("nothing in 1", x.restore(1), NOT_POSSIBLE);
        due("set", x.set(0, 0, 0, 8), 1);
        due("save 1", x.save(1), 4);
        due("set", x.set(0, 0, 0, 9), 8);
        due("restore 0", x.restore(0), 4);
        dueArray(x, 0, "1,2");
        due("restore 1", x.restore(1), 4);
        dueArray(x, 0, "8,2");
        due("save 0", x.save(0), 4);
        due("undo", x.undo(), 4);
        due("restore 0", x.restore(0), 4);
        dueArray(x, 0, "8,2");
    }

    @Sentence("slot: 0 or 1; BAD_VALUE if there is no such slot")
    static void saveInNoSlot() {
        for (int slot : new int[] {-1, 2, 3, LOWEST, HIGHEST}) {
            stays(Sheet::busy, "save " + slot, x -> x.save(slot), BAD_VALUE);
            stays(TropicRanks::new, "save " + slot, x -> x.save(slot), BAD_VALUE);
        }
    }

    // ---- promise 29: restore

    @Sentence("Restores what was saved last in a slot. Returns how many entries all arrays have then")
    static void restoreEverything() {
        TropicRanks x = changes(Sheet::busy, "restore 0", y -> y.restore(0), 6);
        dueArrays(x, "1,2;3,4", "0", "0");
        TropicRanks z = changes(Sheet::busy, "restore 1", y -> y.restore(1), 8);
        dueArrays(z, "1,2;3,4", "5,0,7", "0");
    }

    @Sentence("which keeps it: also after changes, another restore, and undo")
    static void restoreAgain() {
        for (int slot = 0; slot < 2; slot++) {
            TropicRanks x = with("1,2;3,4", "9");
            x.save(slot);
            due("drop", x.drop(0, true, 0), 2);
            due("restore", x.restore(slot), 6);
            dueArrays(x, "1,2;3,4", "9", "0");
            due("raise", x.raise(0, true, 0, 100), 102);
            due("set", x.set(1, 0, 0, 5), 9);
            due("restore again", x.restore(slot), 6);
            dueArrays(x, "1,2;3,4", "9", "0");
            due("undo", x.undo(), 5);
            dueArrays(x, "101,102;3,4", "5", "0");
            due("restore after undo", x.restore(slot), 6);
            dueArrays(x, "1,2;3,4", "9", "0");
        }
    }

    @Sentence("This is a change: also of a full history, of which the oldest state is dropped")
    static void restoreInAFullHistory() {
        TropicRanks x = full();
        due("restore", x.restore(1), 25);
        due("changes", x.count(2), 6);
        dueArray(x, 1, "5,6,0;5,6,9;5,6,0;5,6,0");
        due("undo", x.undo(), 5);
        dueArrays(x, FULL);
        for (int left = 4; left >= 0; left--) {
            due("undo", x.undo(), left);
        }
        // The oldest of the six states was that of the new object; this is the one after the first load.
        dueArrays(x, FULL[0], "0", "0");
    }

    @Sentence("everything except the pad and the history: restore leaves these")
    static void restoreLeavesThePad() {
        TropicRanks x = busy();
        x.wipe();
        write(x, "4,4");
        due("restore", x.restore(0), 6);
        due("length", x.count(1), 3);
        due("changes", x.count(2), 5);
        due("load", x.load(2), 2);
        dueArrays(x, "1,2;3,4", "0", "4,4");
    }

    @Sentence("BAD_VALUE if there is no such slot")
    static void restoreFromNoSlot() {
        for (int slot : new int[] {-1, 2, 3, LOWEST, HIGHEST}) {
            stays(Sheet::busy, "restore " + slot, x -> x.restore(slot), BAD_VALUE);
            stays(TropicRanks::new, "restore " + slot, x -> x.restore(slot), BAD_VALUE);
        }
    }

    @Sentence("NOT_POSSIBLE if nothing was saved in it")
    static void restoreFromAnEmptySlot() {
        stays(TropicRanks::new, "restore 0", x -> x.restore(0), NOT_POSSIBLE);
        stays(TropicRanks::new, "restore 1", x -> x.restore(1), NOT_POSSIBLE);
        stays(() -> savedIn(0), "restore 1", x -> x.restore(1), NOT_POSSIBLE);
        stays(() -> savedIn(1), "restore 0", x -> x.restore(0), NOT_POSSIBLE);
        due("restore 0", savedIn(0).restore(0), 4);
        due("restore 1", savedIn(1).restore(1), 4);
    }

    private static TropicRanks savedIn(int slot) {
        TropicRanks x = with("3,4");
        due("save", x.save(slot), 4);
        return x;
    }
}
