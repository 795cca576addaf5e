/** Promises 12 to 14: undo, keep, restore; and which calls are undoable. */
public final class UndoTest {
    public static void main(String[] args) {
        undoOfNothing();
        eachUndoable();
        eachNotUndoable();
        refusedCallsSaveNothing();
        sixSavedStates();
        undoOfAll();
        keepAndRestore();
        snapshotStays();
        restoreIsUndoable();
        snapshotIsNotUndone();
        Check.end("UndoTest");
    }

    private static void undoOfNothing() {
        FogOrders orders = new FogOrders();
        Check.illegalState(orders, "undo() of nothing", () -> orders.undo());
        orders.army(0, 0);
        Check.due("undo()", orders.undo(), 0);
        Check.illegalState(orders, "undo() once more", () -> orders.undo());
    }

    private static FogOrders ready() {
        FogOrders orders = Setup.armies(0, 0, 1, 1);
        orders.move(0, 4);
        orders.keep();
        return orders;
    }

    private static void saves(String call, FogOrders orders, long before, Check.Call done) {
        done.answer();
        Check.due(call + " saves a state", orders.count(12), 4);
        Check.due("undo() of " + call, orders.undo(), 3);
        Check.due("all is as before " + call, orders.digest(), before);
    }

    private static void eachUndoable() {
        FogOrders orders = ready();
        long before = orders.digest();
        saves("army", orders, before, () -> orders.army(2, 11));
        saves("drop", orders, before, () -> orders.drop(0));
        saves("hold", orders, before, () -> orders.hold(0));
        saves("hold that changes nothing", orders, before, () -> orders.hold(1));
        saves("move", orders, before, () -> orders.move(1, 5));
        saves("move that changes nothing", orders, before, () -> orders.move(0, 4));
        saves("support", orders, before, () -> orders.support(1, 0, 0));
        saves("open", orders, before, () -> orders.open());
        saves("restore", orders, before, () -> orders.restore());
        Setup.type(orders, "0h");
        saves("orders", orders, before, () -> orders.orders());
        Setup.type(orders, "7h");
        saves("orders of none", orders, before, () -> orders.orders());
    }

    private static void eachNotUndoable() {
        FogOrders orders = ready();
        orders.append('x');
        orders.firstError();
        orders.clearBuffer();
        orders.keep();
        orders.armyOf(0, 1);
        orders.field(0, 0);
        orders.seat(0, 0);
        orders.count(0);
        orders.ifOpened(0, 0);
        orders.canReach(0);
        orders.danger();
        orders.ifYear(0);
        orders.success();
        orders.digest();
        Check.due("saved states", orders.count(12), 3);
    }

    private static void refusedCallsSaveNothing() {
        FogOrders orders = ready();
        Check.illegalState(orders, "army", () -> orders.army(0, 0));
        Check.outOfBounds(orders, "drop", () -> orders.drop(2));
        Check.outOfBounds(orders, "hold", () -> orders.hold(2));
        Check.illegalArgument(orders, "move", () -> orders.move(0, 2));
        Check.illegalArgument(orders, "support", () -> orders.support(0, 2, 2));
        Check.illegalArgument(orders, "orders", () -> orders.orders());
        Check.due("saved states", orders.count(12), 3);
        FogOrders none = Setup.armies(0, 0);
        Check.illegalState(none, "restore", () -> none.restore());
        Check.due("saved states without a snapshot", none.count(12), 1);
    }

    private static void sixSavedStates() {
        FogOrders orders = new FogOrders();
        for (int i = 0; i < 9; i++) {
            orders.army(0, i);
            Check.due("saved states", orders.count(12), Math.min(i + 1, 6));
        }
        for (int left = 5; left >= 0; left--) {
            Check.due("undo()", orders.undo(), left);
            Check.due("armies", orders.count(0), left + 3);
            Check.due("saved states", orders.count(12), left);
        }
        Check.illegalState(orders, "undo() of a dropped state", () -> orders.undo());
        for (int round = 0; round < 5; round++) {
            orders.army(1, 8 - round);
            orders.army(1, 11);
            orders.undo();
        }
        Check.due("five more", orders.count(12), 5);
        Check.due("armies", orders.count(0), 8);
        orders.undo();
        Check.due("armies", orders.count(0), 7);
    }

    /** What is counted, the centres, the season and the orders come back too. */
    private static void undoOfAll() {
        FogOrders orders = Setup.armies(0, 9, 1, 1, 0, 5, 1, 0, 1, 2);
        orders.open();
        Setup.give(orders, "0m1;2s9-1");
        // One state less than the most, so that the digests agree on their number too.
        orders.hold(4);
        orders.undo();
        long before = orders.digest();
        Check.due("open()", orders.open(), 0);
        Check.due("year", orders.count(1), 1);
        Check.due("disbanded", orders.count(7), 1);
        Check.due("taken off", orders.count(9), 1);
        Check.due("centre", orders.seat(1, 1), 1);
        Check.due("succeeded", orders.armyOf(0, 5), 1);
        orders.undo();
        Check.due("all is back", orders.digest(), before);
        Check.due("year", orders.count(1), 0);
        Check.due("openings", orders.count(3), 1);
        Check.due("orders", orders.count(10), 1);
    }

    private static void keepAndRestore() {
        FogOrders orders = Setup.armies(0, 9, 1, 1, 0, 5);
        Check.illegalState(orders, "restore() without a snapshot", () -> orders.restore());
        Setup.give(orders, "0m1;2s9-1");
        Check.due("keep()", orders.keep(), 3);
        orders.open();
        orders.open();
        orders.drop(0);
        Setup.type(orders, "abc");
        Check.due("restore()", orders.restore(), 3);
        Setup.armyOf("restored", orders, 1, 9, 1, 5);
        Setup.armyOf("restored", orders, 2, 1, 0, 2);
        Setup.armyOf("restored", orders, 5, 0, 0, 0);
        Check.due("year", orders.count(1), 0);
        Check.due("openings", orders.count(3), 0);
        Check.due("owner of 9", orders.field(9, 2), -1);
        Check.due("the buffer stays", orders.clearBuffer(), 3);
        FogOrders empty = new FogOrders();
        Check.due("keep() of nothing", empty.keep(), 0);
        empty.army(0, 0);
        Check.due("restore() of nothing", empty.restore(), 0);
        Check.due("armies", empty.count(0), 0);
    }

    private static void snapshotStays() {
        FogOrders orders = Setup.armies(0, 0);
        orders.keep();
        orders.move(0, 1);
        orders.open();
        orders.restore();
        orders.army(1, 5);
        orders.move(0, 11);
        Check.due("restore() again", orders.restore(), 1);
        Setup.armyOf("again", orders, 1, 0);
        Setup.armyOf("again", orders, 2, 0);
        orders.army(1, 5);
        Check.due("keep() in its place", orders.keep(), 2);
        orders.drop(0);
        orders.drop(0);
        Check.due("restore() of the later one", orders.restore(), 2);
        Setup.armyOf("the later one", orders, 1, 0, 5);
    }

    private static void restoreIsUndoable() {
        FogOrders orders = Setup.armies(0, 0);
        orders.keep();
        orders.army(1, 3);
        orders.move(1, 2);
        long before = orders.digest();
        orders.restore();
        Check.due("saved states are not restored", orders.count(12), 4);
        Check.due("undo() of restore()", orders.undo(), 3);
        Check.due("all is back", orders.digest(), before);
    }

    private static void snapshotIsNotUndone() {
        FogOrders orders = new FogOrders();
        orders.army(0, 0);
        orders.army(0, 1);
        orders.keep();
        orders.undo();
        orders.undo();
        Check.due("armies", orders.count(0), 0);
        Check.due("restore() behind undo()", orders.restore(), 2);
    }
}
