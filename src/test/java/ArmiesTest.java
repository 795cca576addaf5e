/** Promises 1 to 6: a new object, army, drop, hold, move, support. */
public final class ArmiesTest {
    private static final int[] EXTREMES = {-1, Integer.MIN_VALUE, Integer.MAX_VALUE, 1 << 30};

    public static void main(String[] args) {
        newObject();
        armies();
        armiesRefused();
        drops();
        armyInTheOldPlace();
        holds();
        moves();
        supports();
        supportsRefused();
        Check.end("ArmiesTest");
    }

    private static void newObject() {
        FogOrders orders = new FogOrders();
        for (int what = 0; what <= 12; what++) {
            Check.due("new count(" + what + ")", orders.count(what), 0);
        }
        for (int field = 0; field < 12; field++) {
            Check.due("new field(" + field + ", 0)", orders.field(field, 0), -1);
            Check.due("new field(" + field + ", 2)", orders.field(field, 2), -1);
            Check.due("new field(" + field + ", 3)", orders.field(field, 3), 0);
        }
        for (int seat = 0; seat < 3; seat++) {
            Check.due("new seat 0", orders.seat(seat, 0), 0);
            Check.due("new seat 1", orders.seat(seat, 1), 0);
            Check.due("new seat 2", orders.seat(seat, 2), 0);
            Check.due("new seat 3", orders.seat(seat, 3), -1);
            Check.due("new seat 4", orders.seat(seat, 4), 0);
        }
        Check.due("new firstError", orders.firstError(), 0);
        Check.due("new clearBuffer", orders.clearBuffer(), 0);
        Check.due("new danger", orders.danger(), -1);
        Check.dueShare("new success", orders.success(), 1.0);
        Check.illegalState(orders, "new undo", () -> orders.undo());
        Check.illegalState(orders, "new restore", () -> orders.restore());
    }

    private static void armies() {
        FogOrders orders = new FogOrders();
        for (int i = 0; i < 9; i++) {
            Check.due("army " + i, orders.army(i % 3, 11 - i), i);
            Check.due("armies", orders.count(0), i + 1);
            Check.due("seat of " + i, orders.armyOf(i, 0), i % 3);
            Check.due("field of " + i, orders.armyOf(i, 1), 11 - i);
            Check.due("kind of " + i, orders.armyOf(i, 2), 0);
            Check.due("to of " + i, orders.armyOf(i, 3), -1);
            Check.due("from of " + i, orders.armyOf(i, 4), -1);
            Check.due("succeeded of " + i, orders.armyOf(i, 5), 0);
            Check.due("failed of " + i, orders.armyOf(i, 6), 0);
        }
        Check.due("saved", orders.count(12), 6);
    }

    private static void armiesRefused() {
        FogOrders orders = Setup.armies(1, 5);
        for (int bad : EXTREMES) {
            Check.outOfBounds(orders, "army(" + bad + ", 0)", () -> orders.army(bad, 0));
            Check.outOfBounds(orders, "army(0, " + bad + ")", () -> orders.army(0, bad));
        }
        Check.outOfBounds(orders, "army(3, 5)", () -> orders.army(3, 5));
        Check.outOfBounds(orders, "army(0, 12)", () -> orders.army(0, 12));
        Check.illegalState(orders, "army(1, 5) again", () -> orders.army(1, 5));
        Check.illegalState(orders, "army(0, 5) on a foreign one", () -> orders.army(0, 5));
        FogOrders full = Setup.armies(0, 0, 1, 1, 2, 2, 0, 3, 1, 4, 2, 5, 0, 6, 1, 7, 2, 8);
        Check.illegalState(full, "a tenth army", () -> full.army(0, 11));
        Check.outOfBounds(full, "a tenth army of no seat", () -> full.army(3, 11));
        Check.outOfBounds(full, "a tenth army on no field", () -> full.army(0, 12));
        full.drop(8);
        Check.due("a ninth army again", full.army(0, 11), 8);
    }

    private static void drops() {
        FogOrders orders = Setup.armies(0, 0, 1, 2, 2, 7);
        orders.move(1, 3);
        orders.support(2, 2, 3);
        Check.due("drop(0)", orders.drop(0), 2);
        Setup.armyOf("behind a drop", orders, 0, 1, 2);
        Setup.armyOf("behind a drop", orders, 1, 2, 7);
        Setup.armyOf("behind a drop", orders, 2, 1, 2);
        Setup.armyOf("behind a drop", orders, 3, 3, 3);
        Setup.armyOf("behind a drop", orders, 4, -1, 2);
        Check.due("field left", orders.field(0, 0), -1);
        Check.due("field of the new 0", orders.field(2, 0), 0);
        Check.due("drop is not counted as taken off", orders.count(9), 0);
        Check.outOfBounds(orders, "drop(2)", () -> orders.drop(2));
        for (int bad : EXTREMES) {
            Check.outOfBounds(orders, "drop(" + bad + ")", () -> orders.drop(bad));
        }
        Check.due("drop(1)", orders.drop(1), 1);
        Check.due("drop(0)", orders.drop(0), 0);
        Check.outOfBounds(orders, "drop(0) of none", () -> orders.drop(0));
        Check.due("undone drop", orders.undo(), 5);
        Check.due("armies again", orders.count(0), 1);
    }

    private static void armyInTheOldPlace() {
        FogOrders orders = Setup.armies(2, 0, 1, 4);
        Setup.give(orders, "0m1;1m3");
        orders.open();
        Setup.give(orders, "0m0;1m4");
        orders.army(1, 8);
        orders.move(2, 4);
        orders.open();
        Setup.give(orders, "0m1;1s8-7");
        orders.drop(2);
        orders.drop(1);
        orders.drop(0);
        Check.due("armies", orders.count(0), 0);
        Check.due("army(0, 9)", orders.army(0, 9), 0);
        Check.due("army(1, 5)", orders.army(1, 5), 1);
        Setup.armyOf("in the old place", orders, 0, 0, 1);
        Setup.armyOf("in the old place", orders, 1, 9, 5);
        Setup.armyOf("in the old place", orders, 2, 0, 0);
        Setup.armyOf("in the old place", orders, 3, -1, -1);
        Setup.armyOf("in the old place", orders, 4, -1, -1);
        Setup.armyOf("in the old place", orders, 5, 0, 0);
        Setup.armyOf("in the old place", orders, 6, 0, 0);
    }

    private static void holds() {
        FogOrders orders = Setup.armies(0, 0);
        Check.due("hold of a holder", orders.hold(0), 0);
        orders.move(0, 1);
        Check.due("hold of a mover", orders.hold(0), 1);
        Check.due("kind", orders.armyOf(0, 2), 0);
        Check.due("to", orders.armyOf(0, 3), -1);
        orders.support(0, 2, 1);
        Check.due("hold of a supporter", orders.hold(0), 2);
        Check.due("kind", orders.armyOf(0, 2), 0);
        Check.due("to", orders.armyOf(0, 3), -1);
        Check.due("from", orders.armyOf(0, 4), -1);
        Check.due("hold saves, even if nothing changes", orders.count(12), 6);
        Check.outOfBounds(orders, "hold(1)", () -> orders.hold(1));
        for (int bad : EXTREMES) {
            Check.outOfBounds(orders, "hold(" + bad + ")", () -> orders.hold(bad));
        }
    }

    private static void moves() {
        for (int field = 0; field < 12; field++) {
            FogOrders orders = Setup.armies(0, field);
            for (int to = 0; to < 12; to++) {
                int goal = to;
                int gap = Math.abs(field - to);
                if (gap == 1 || gap == 4 || gap == 8 || gap == 11) {
                    orders.hold(0);
                    Check.due("move " + field + " to " + to, orders.move(0, to), 0);
                    Check.due("kind", orders.armyOf(0, 2), 1);
                    Check.due("to", orders.armyOf(0, 3), to);
                    Check.due("from", orders.armyOf(0, 4), -1);
                } else {
                    Check.illegalArgument(orders, "move " + field + " to " + to, () -> orders.move(0, goal));
                }
            }
        }
        FogOrders orders = Setup.armies(0, 0);
        orders.move(0, 1);
        Check.due("move of a mover", orders.move(0, 4), 1);
        orders.support(0, 1, 1);
        Check.due("move of a supporter", orders.move(0, 8), 2);
        Check.due("from is gone", orders.armyOf(0, 4), -1);
        Check.outOfBounds(orders, "move(1, 1)", () -> orders.move(1, 1));
        Check.outOfBounds(orders, "move(1, 0) is both", () -> orders.move(1, 0));
        Check.outOfBounds(orders, "move(0, 12)", () -> orders.move(0, 12));
        for (int bad : EXTREMES) {
            Check.outOfBounds(orders, "move(" + bad + ", 1)", () -> orders.move(bad, 1));
            Check.outOfBounds(orders, "move(0, " + bad + ")", () -> orders.move(0, bad));
        }
    }

    private static void supports() {
        FogOrders orders = Setup.armies(0, 0);
        Check.due("support of a move", orders.support(0, 2, 1), 0);
        Check.due("kind", orders.armyOf(0, 2), 2);
        Check.due("to", orders.armyOf(0, 3), 1);
        Check.due("from", orders.armyOf(0, 4), 2);
        Check.due("support in staying", orders.support(0, 11, 11), 2);
        Check.due("to", orders.armyOf(0, 3), 11);
        Check.due("from", orders.armyOf(0, 4), 11);
        orders.move(0, 1);
        Check.due("support from its own field", orders.support(0, 0, 4), 1);
        Check.due("from", orders.armyOf(0, 4), 0);
        Check.due("supports now", orders.count(11), 1);
    }

    private static void supportsRefused() {
        FogOrders orders = Setup.armies(0, 0);
        orders.support(0, 2, 1);
        for (int to = 0; to < 12; to++) {
            for (int from = 0; from < 12; from++) {
                int goal = to;
                int start = from;
                boolean near = to == 1 || to == 4 || to == 8 || to == 11;
                int gap = Math.abs(from - to);
                boolean fits = gap == 0 || gap == 1 || gap == 4 || gap == 8 || gap == 11;
                if (near && fits) {
                    Check.due("support " + from + "-" + to, orders.support(0, from, to), 2);
                } else {
                    Check.illegalArgument(orders, "support " + from + "-" + to, () -> orders.support(0, start, goal));
                }
            }
        }
        Check.outOfBounds(orders, "support(1, 2, 1)", () -> orders.support(1, 2, 1));
        Check.outOfBounds(orders, "support(1, 0, 0) is both", () -> orders.support(1, 0, 0));
        Check.outOfBounds(orders, "support(0, 12, 2) is both", () -> orders.support(0, 12, 2));
        Check.outOfBounds(orders, "support(0, 12, 1)", () -> orders.support(0, 12, 1));
        Check.outOfBounds(orders, "support(0, 0, 12)", () -> orders.support(0, 0, 12));
        for (int bad : EXTREMES) {
            Check.outOfBounds(orders, "support(" + bad + ", 2, 1)", () -> orders.support(bad, 2, 1));
            Check.outOfBounds(orders, "support(0, " + bad + ", 1)", () -> orders.support(0, bad, 1));
            Check.outOfBounds(orders, "support(0, 2, " + bad + ")", () -> orders.support(0, 2, bad));
        }
    }
}
