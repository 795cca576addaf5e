/** "Undo, the snapshot" and promises 12 to 14: each sentence that names a boundary, by a test of its own. */
public final class UndoEdgesTest {
    public static void main(String[] args) {
        noSavedState();
        sixSavedStates();
        sevenSavedStates();
        oldestIsDroppedFirst();
        undoMakesRoom();
        undoReturnsWhatIsLeft();
        eachUndoableSaves();
        savesEvenIfNothingChanges();
        throwersSaveNothing();
        whatIsNotUndoable();
        allComesBack();
        bufferIsNotSaved();
        savedStatesAreNotSaved();
        snapshotIsNotSaved();
        noSnapshot();
        snapshotInPlaceOfTheOneBefore();
        snapshotStays();
        snapshotOfNoArmyAndOfNine();
        restoreIsUndoable();
        restoreWithSixSaved();
        restoreBringsCountsBack();
        Check.end("UndoEdgesTest");
    }

    private static FogOrders armies(int armies) {
        FogOrders orders = new FogOrders();
        for (int i = 0; i < armies; i++) {
            orders.army(i % 3, i);
        }
        return orders;
    }

    /** "if there is none": in a new object, and behind the last one. */
    private static void noSavedState() {
        FogOrders orders = new FogOrders();
        Check.illegalState(orders, "undo() of a new one", () -> orders.undo());
        orders.open();
        Check.due("undo()", orders.undo(), 0);
        Check.illegalState(orders, "undo() behind the last", () -> orders.undo());
        orders.keep();
        Check.illegalState(orders, "undo() of keep()", () -> orders.undo());
    }

    /** "At most 6 states are saved" */
    private static void sixSavedStates() {
        for (int calls = 0; calls <= 9; calls++) {
            Check.due("saved behind " + calls, armies(calls).count(12), calls < 6 ? calls : 6);
        }
        FogOrders six = armies(6);
        for (int left = 5; left >= 0; left--) {
            Check.due("undo()", six.undo(), left);
            Check.due("armies", six.count(0), left);
        }
        Check.illegalState(six, "a seventh undo()", () -> six.undo());
    }

    private static void sevenSavedStates() {
        FogOrders seven = armies(7);
        for (int left = 5; left >= 0; left--) {
            Check.due("undo()", seven.undo(), left);
            Check.due("armies", seven.count(0), left + 1);
        }
        Check.illegalState(seven, "a seventh undo()", () -> seven.undo());
    }

    /** "the oldest one is dropped first": for as many calls as an object takes. */
    private static void oldestIsDroppedFirst() {
        FogOrders orders = new FogOrders();
        for (int i = 0; i < 100; i++) {
            orders.open();
        }
        Check.due("saved", orders.count(12), 6);
        for (int left = 5; left >= 0; left--) {
            Check.due("undo()", orders.undo(), left);
            Check.due("openings", orders.count(3), 94 + left);
        }
        Check.illegalState(orders, "undo() of a dropped one", () -> orders.undo());
    }

    /** Behind each undo as many states fit as before, wherever the oldest one is. */
    private static void undoMakesRoom() {
        for (int before = 1; before <= 14; before++) {
            FogOrders orders = new FogOrders();
            for (int i = 0; i < before; i++) {
                orders.open();
            }
            orders.undo();
            orders.open();
            orders.open();
            int most = before + 1 < 6 ? before + 1 : 6;
            Check.due("saved", orders.count(12), most);
            for (int i = 1; i <= most; i++) {
                orders.undo();
                Check.due("openings", orders.count(3), before + 1 - i);
            }
            Check.illegalState(orders, "one more undo()", () -> orders.undo());
        }
    }

    /** "Returns how many saved states are left." */
    private static void undoReturnsWhatIsLeft() {
        FogOrders orders = armies(3);
        Check.due("undo()", orders.undo(), 2);
        Check.due("count(12)", orders.count(12), 2);
        orders.army(0, 9);
        Check.due("undo()", orders.undo(), 2);
    }

    private static FogOrders ready() {
        FogOrders orders = Setup.armies(0, 0, 1, 1);
        orders.keep();
        Setup.type(orders, "0m11");
        return orders;
    }

    /** Two armies that hold, and two saved states, are as before behind the call and its undo. */
    private static void saves(String call, FogOrders orders, Check.Call done) {
        done.answer();
        Check.due(call + " saves", orders.count(12), 3);
        Check.due("undo() of " + call, orders.undo(), 2);
        Setup.armyOf("undone " + call, orders, 1, 0, 1);
        Setup.armyOf("undone " + call, orders, 2, 0, 0);
        Check.due("openings behind undone " + call, orders.count(3), 0);
    }

    /** "Undoable": each method that is marked so. */
    private static void eachUndoableSaves() {
        FogOrders orders = ready();
        saves("army", orders, () -> orders.army(2, 5));
        saves("drop", orders, () -> orders.drop(0));
        saves("hold", orders, () -> orders.hold(1));
        saves("move", orders, () -> orders.move(1, 2));
        saves("support", orders, () -> orders.support(1, 0, 0));
        saves("open", orders, () -> orders.open());
        saves("orders", orders, () -> orders.orders());
        saves("restore", orders, () -> orders.restore());
    }

    /** "saves the state from before it (also if it changes nothing)" */
    private static void savesEvenIfNothingChanges() {
        FogOrders orders = Setup.armies(0, 0);
        orders.hold(0);
        Check.due("hold of a holder", orders.count(12), 2);
        orders.move(0, 1);
        orders.move(0, 1);
        Check.due("the same move", orders.count(12), 4);
        orders.keep();
        orders.restore();
        Check.due("restore of what is", orders.count(12), 5);
        Check.due("undo()", orders.undo(), 4);
        FogOrders support = Setup.armies(0, 0);
        support.support(0, 1, 1);
        support.support(0, 1, 1);
        Check.due("the same support", support.count(12), 3);
    }

    /** "Each method that is marked "undoable" and does not throw an exception" */
    private static void throwersSaveNothing() {
        FogOrders orders = Setup.armies(0, 0);
        Check.illegalState(orders, "army", () -> orders.army(0, 0));
        Check.outOfBounds(orders, "drop", () -> orders.drop(1));
        Check.outOfBounds(orders, "hold", () -> orders.hold(1));
        Check.illegalArgument(orders, "move", () -> orders.move(0, 0));
        Check.illegalArgument(orders, "support", () -> orders.support(0, 0, 0));
        Check.illegalArgument(orders, "orders", () -> orders.orders());
        Check.illegalState(orders, "restore", () -> orders.restore());
        Check.due("saved", orders.count(12), 1);
        Check.due("undo()", orders.undo(), 0);
        Check.due("armies", orders.count(0), 0);
    }

    /** Those that are not marked save nothing, though they change the buffer or the snapshot. */
    private static void whatIsNotUndoable() {
        FogOrders orders = Setup.armies(0, 0);
        orders.append('0');
        Check.due("append", orders.count(12), 1);
        orders.clearBuffer();
        Check.due("clearBuffer", orders.count(12), 1);
        orders.firstError();
        orders.keep();
        Check.due("keep", orders.count(12), 1);
        orders.canReach(0);
        orders.ifOpened(0, 0);
        orders.ifYear(0);
        orders.danger();
        orders.success();
        orders.digest();
        Check.due("looks", orders.count(12), 1);
    }

    /** "all, also what is counted so far": each number but that of the saved states. */
    private static void allComesBack() {
        FogOrders orders = Setup.armies(1, 1, 0, 0, 0, 2, 2, 9, 2, 4, 2, 7);
        orders.open();
        Setup.give(orders, "1m1;2s0-1;3s4-5;4m5;5m6");
        int[][] before = numbers(orders);
        Check.due("open()", orders.open(), 0);
        int[][] behind = numbers(orders);
        boolean changed = false;
        for (int i = 0; i < 12; i++) {
            changed |= before[0][i] != behind[0][i];
        }
        Check.note(changed, "open() changes what is counted");
        orders.undo();
        int[][] again = numbers(orders);
        for (int row = 0; row < before.length; row++) {
            Check.due("numbers in row " + row, again[row].length, before[row].length);
            for (int i = 0; i < before[row].length; i++) {
                Check.due("number " + i + " in row " + row, again[row][i], before[row][i]);
            }
        }
    }

    /** What is counted, then each army's numbers, then the owners of the fields. */
    private static int[][] numbers(FogOrders orders) {
        int armies = orders.count(0);
        int[][] rows = new int[3][];
        rows[0] = new int[12];
        rows[1] = new int[armies * 7];
        rows[2] = new int[12];
        for (int i = 0; i < 12; i++) {
            rows[0][i] = orders.count(i);
            rows[2][i] = orders.field(i, 2);
        }
        for (int i = 0; i < armies * 7; i++) {
            rows[1][i] = orders.armyOf(i / 7, i % 7);
        }
        return rows;
    }

    /** "but the buffer": undo and restore leave it as it is. */
    private static void bufferIsNotSaved() {
        FogOrders orders = Setup.armies(0, 0);
        Setup.type(orders, "0m1");
        orders.hold(0);
        orders.append('1');
        orders.undo();
        Check.due("behind undo()", orders.firstError(), 4);
        orders.keep();
        orders.append(';');
        orders.restore();
        Check.due("behind restore()", orders.firstError(), 5);
        orders.undo();
        Check.due("behind undo() of restore()", orders.clearBuffer(), 5);
        orders.restore();
        Check.due("it does not come back", orders.clearBuffer(), 0);
    }

    /** "the saved states": neither undo nor restore brings other ones back. */
    private static void savedStatesAreNotSaved() {
        FogOrders orders = Setup.armies(0, 0, 1, 1);
        orders.keep();
        orders.undo();
        orders.undo();
        Check.due("saved", orders.count(12), 0);
        Check.due("restore()", orders.restore(), 2);
        Check.due("one is saved, by restore()", orders.count(12), 1);
        Check.due("undo()", orders.undo(), 0);
        Check.due("armies", orders.count(0), 0);
    }

    /** "and the snapshot": undo brings no earlier one back, and drops none. */
    private static void snapshotIsNotSaved() {
        FogOrders orders = new FogOrders();
        orders.keep();
        orders.army(0, 0);
        orders.keep();
        orders.undo();
        Check.due("restore() of the later one", orders.restore(), 1);
        orders.undo();
        Check.due("restore() again", orders.restore(), 1);
    }

    /** "if there is no snapshot" */
    private static void noSnapshot() {
        FogOrders orders = Setup.armies(0, 0);
        Check.illegalState(orders, "restore()", () -> orders.restore());
        orders.undo();
        Check.illegalState(orders, "restore() behind undo()", () -> orders.restore());
        Check.due("keep()", orders.keep(), 0);
        Check.due("restore()", orders.restore(), 0);
    }

    /** "Takes a snapshot, in place of the one before." */
    private static void snapshotInPlaceOfTheOneBefore() {
        FogOrders orders = armies(2);
        Check.due("keep() of two", orders.keep(), 2);
        orders.drop(0);
        Check.due("keep() of one", orders.keep(), 1);
        orders.drop(0);
        Check.due("restore()", orders.restore(), 1);
        Check.due("restore() again", orders.restore(), 1);
    }

    /** "Restores the state of the snapshot, which stays." */
    private static void snapshotStays() {
        FogOrders orders = armies(3);
        orders.keep();
        for (int i = 0; i < 4; i++) {
            Setup.give(orders, "0m11;1m5");
            orders.open();
            orders.drop(2);
            Check.due("restore()", orders.restore(), 3);
            Setup.armyOf("restored", orders, 1, 0, 1, 2);
            Setup.armyOf("restored", orders, 5, 0, 0, 0);
            Setup.armyOf("restored", orders, 2, 0, 0, 0);
        }
    }

    private static void snapshotOfNoArmyAndOfNine() {
        FogOrders orders = new FogOrders();
        Check.due("keep() of none", orders.keep(), 0);
        for (int i = 0; i < 9; i++) {
            orders.army(0, i);
        }
        Check.due("restore() of none", orders.restore(), 0);
        orders.undo();
        Check.due("keep() of nine", orders.keep(), 9);
        orders.drop(0);
        Check.due("restore() of nine", orders.restore(), 9);
        Check.illegalState(orders, "a tenth", () -> orders.army(0, 11));
    }

    /** "which stays. Undoable." */
    private static void restoreIsUndoable() {
        FogOrders orders = armies(1);
        orders.keep();
        orders.army(1, 5);
        orders.move(1, 6);
        orders.restore();
        Check.due("undo()", orders.undo(), 3);
        Setup.armyOf("as before", orders, 3, -1, 6);
    }

    private static void restoreWithSixSaved() {
        FogOrders orders = armies(8);
        orders.keep();
        Check.due("saved", orders.count(12), 6);
        orders.restore();
        Check.due("saved behind restore()", orders.count(12), 6);
        for (int i = 0; i < 6; i++) {
            orders.undo();
            Check.due("armies", orders.count(0), 8 - i);
        }
        Check.illegalState(orders, "undo() of what was dropped", () -> orders.undo());
    }

    private static void restoreBringsCountsBack() {
        FogOrders orders = Setup.armies(0, 0, 1, 1);
        Setup.give(orders, "0m1;1m2");
        orders.open();
        orders.keep();
        for (int i = 0; i < 5; i++) {
            orders.open();
        }
        Check.due("openings", orders.count(3), 6);
        orders.restore();
        int[] due = {2, 0, 1, 1, 2, 0, 0, 0, 0, 0, 0, 0, 6};
        for (int what = 0; what <= 12; what++) {
            Check.due("count(" + what + ")", orders.count(what), due[what]);
        }
    }
}
