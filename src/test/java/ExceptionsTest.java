/** The document's "Exceptions": which one is thrown if several apply, and that a call that throws changes nothing. */
public final class ExceptionsTest {
    public static void main(String[] args) {
        armyOutsideAndFull();
        moveOutsideAndNoNeighbour();
        supportOutsideAndNoNeighbour();
        appendWrongAndFull();
        looksOutsideAndWrongWhat();
        refusedCallsChangeNothing();
        refusedCallsKeepTheSnapshot();
        Check.end("ExceptionsTest");
    }

    private static FogOrders nine() {
        return Setup.armies(0, 0, 1, 1, 2, 2, 0, 3, 1, 4, 2, 5, 0, 6, 1, 7, 2, 8);
    }

    private static FogOrders full() {
        FogOrders orders = Setup.armies(0, 0, 1, 1);
        for (int i = 0; i < 60; i++) {
            orders.append('h');
        }
        return orders;
    }

    /** "the one that is named first in the throws clause is thrown": IndexOutOfBounds before IllegalState. */
    private static void armyOutsideAndFull() {
        FogOrders one = Setup.armies(0, 0);
        Check.outOfBounds(one, "army(3, 0) on an army", () -> one.army(3, 0));
        Check.outOfBounds(one, "army(-1, 0) on an army", () -> one.army(-1, 0));
        FogOrders nine = nine();
        Check.outOfBounds(nine, "army(3, 11) with 9", () -> nine.army(3, 11));
        Check.outOfBounds(nine, "army(-1, 8) with 9 on an army", () -> nine.army(-1, 8));
        Check.outOfBounds(nine, "army(0, 12) with 9", () -> nine.army(0, 12));
        Check.outOfBounds(nine, "army(0, -1) with 9", () -> nine.army(0, -1));
        Check.illegalState(nine, "army(0, 11) with 9", () -> nine.army(0, 11));
        Check.illegalState(nine, "army(0, 8) with 9 on an army", () -> nine.army(0, 8));
    }

    /** IndexOutOfBounds before IllegalArgument. */
    private static void moveOutsideAndNoNeighbour() {
        FogOrders orders = Setup.armies(0, 0);
        Check.outOfBounds(orders, "move(0, 12)", () -> orders.move(0, 12));
        Check.outOfBounds(orders, "move(0, -1)", () -> orders.move(0, -1));
        Check.outOfBounds(orders, "move(1, 0)", () -> orders.move(1, 0));
        Check.outOfBounds(orders, "move(-1, 0)", () -> orders.move(-1, 0));
        Check.illegalArgument(orders, "move(0, 0)", () -> orders.move(0, 0));
        FogOrders last = Setup.armies(0, 11);
        Check.outOfBounds(last, "move(0, 12) beside 11", () -> last.move(0, 12));
        Check.outOfBounds(last, "move(0, 15) beside 11", () -> last.move(0, 15));
    }

    private static void supportOutsideAndNoNeighbour() {
        FogOrders orders = Setup.armies(0, 0);
        Check.outOfBounds(orders, "support(0, 12, 0): to is no neighbour", () -> orders.support(0, 12, 0));
        Check.outOfBounds(orders, "support(0, -1, 2): to is no neighbour", () -> orders.support(0, -1, 2));
        Check.outOfBounds(orders, "support(0, 12, 8): 4 away", () -> orders.support(0, 12, 8));
        Check.outOfBounds(orders, "support(0, 3, -1): 1 away", () -> orders.support(0, 3, -1));
        Check.outOfBounds(orders, "support(0, 5, 12)", () -> orders.support(0, 5, 12));
        Check.outOfBounds(orders, "support(1, 5, 0)", () -> orders.support(1, 5, 0));
        Check.outOfBounds(orders, "support(-1, 5, 0)", () -> orders.support(-1, 5, 0));
        Check.illegalArgument(orders, "support(0, 5, 0)", () -> orders.support(0, 5, 0));
    }

    /** IllegalArgument before IllegalState. */
    private static void appendWrongAndFull() {
        FogOrders orders = full();
        Check.illegalArgument(orders, "append(32) to 60", () -> orders.append(32));
        Check.illegalArgument(orders, "append(127) to 60", () -> orders.append(127));
        Check.illegalArgument(orders, "append(-1) to 60", () -> orders.append(-1));
        Check.illegalState(orders, "append(33) to 60", () -> orders.append(33));
        Check.illegalState(orders, "append(126) to 60", () -> orders.append(126));
    }

    /** IndexOutOfBounds before IllegalArgument. */
    private static void looksOutsideAndWrongWhat() {
        FogOrders orders = Setup.armies(0, 0);
        for (int wrong : new int[] {-1, 13, Integer.MIN_VALUE, Integer.MAX_VALUE}) {
            for (int outside : new int[] {-1, 12, Integer.MIN_VALUE, Integer.MAX_VALUE}) {
                Check.outOfBounds(orders, "armyOf of both", () -> orders.armyOf(outside, wrong));
                Check.outOfBounds(orders, "ifOpened of both", () -> orders.ifOpened(outside, wrong));
                Check.outOfBounds(orders, "field of both", () -> orders.field(outside, wrong));
                Check.outOfBounds(orders, "seat of both", () -> orders.seat(outside, wrong));
            }
        }
        Check.outOfBounds(orders, "armyOf(1, 7)", () -> orders.armyOf(1, 7));
        Check.outOfBounds(orders, "ifOpened(1, 6)", () -> orders.ifOpened(1, 6));
        Check.outOfBounds(orders, "field(12, 5)", () -> orders.field(12, 5));
        Check.outOfBounds(orders, "seat(3, 5)", () -> orders.seat(3, 5));
    }

    /** Every call that can be refused, on an object with two armies and a full buffer that is no orders. */
    private static void refuseAll(FogOrders orders) {
        Check.illegalState(orders, "army", () -> orders.army(0, 0));
        Check.outOfBounds(orders, "army", () -> orders.army(3, 5));
        Check.outOfBounds(orders, "drop", () -> orders.drop(2));
        Check.outOfBounds(orders, "hold", () -> orders.hold(2));
        Check.outOfBounds(orders, "move", () -> orders.move(0, 12));
        Check.illegalArgument(orders, "move", () -> orders.move(0, 2));
        Check.outOfBounds(orders, "support", () -> orders.support(0, 12, 1));
        Check.illegalArgument(orders, "support", () -> orders.support(0, 4, 1));
        Check.illegalArgument(orders, "append", () -> orders.append(127));
        Check.illegalState(orders, "append", () -> orders.append('h'));
        Check.illegalArgument(orders, "orders", () -> orders.orders());
        Check.outOfBounds(orders, "armyOf", () -> orders.armyOf(2, 0));
        Check.illegalArgument(orders, "armyOf", () -> orders.armyOf(0, 7));
        Check.outOfBounds(orders, "field", () -> orders.field(12, 0));
        Check.illegalArgument(orders, "field", () -> orders.field(0, 5));
        Check.outOfBounds(orders, "seat", () -> orders.seat(3, 0));
        Check.illegalArgument(orders, "seat", () -> orders.seat(0, 5));
        Check.illegalArgument(orders, "count", () -> orders.count(13));
        Check.outOfBounds(orders, "ifOpened", () -> orders.ifOpened(2, 0));
        Check.illegalArgument(orders, "ifOpened", () -> orders.ifOpened(0, 6));
        Check.outOfBounds(orders, "canReach", () -> orders.canReach(2));
        Check.outOfBounds(orders, "ifYear", () -> orders.ifYear(3));
    }

    /**
     * "A call that throws an exception changes nothing": armies, buffer, saved states and all;
     * a twin that was never asked stays the same from undo to undo.
     */
    private static void refusedCallsChangeNothing() {
        FogOrders asked = full();
        FogOrders twin = full();
        asked.move(0, 11);
        twin.move(0, 11);
        Check.illegalState(asked, "restore", () -> asked.restore());
        refuseAll(asked);
        Check.due("firstError", asked.firstError(), twin.firstError());
        for (int left = 2; left >= 0; left--) {
            Check.due("digest with a state more than " + left, asked.digest(), twin.digest());
            Check.due("undo()", asked.undo(), left);
            twin.undo();
        }
        Check.illegalState(asked, "undo", () -> asked.undo());
        Check.due("digest behind all", asked.digest(), twin.digest());
        Check.due("the buffer", asked.clearBuffer(), 60);
    }

    private static void refusedCallsKeepTheSnapshot() {
        FogOrders orders = full();
        orders.move(1, 5);
        orders.keep();
        orders.hold(1);
        refuseAll(orders);
        Check.due("restore()", orders.restore(), 2);
        Setup.armyOf("the snapshot", orders, 2, 0, 1);
        Setup.armyOf("the snapshot", orders, 3, -1, 5);
    }
}
