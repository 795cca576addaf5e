import java.util.Set;

/** Promises 15 to 18: armyOf, field, seat, count. */
public final class LooksTest {
    private static final int[] EXTREMES = {-1, Integer.MIN_VALUE, Integer.MAX_VALUE, 1 << 30, 613566757};

    public static void main(String[] args) {
        armyNumbers();
        armyRefused();
        fieldNumbers();
        neighbours();
        fieldRefused();
        seatNumbers();
        seenFields();
        seatRefused();
        counts();
        countRefused();
        Check.end("LooksTest");
    }

    private static void armyNumbers() {
        FogOrders orders = Setup.armies(0, 0, 1, 2, 2, 7);
        Setup.give(orders, "0m1;1s6-10");
        Setup.armyOf("seat", orders, 0, 0, 1, 2);
        Setup.armyOf("field", orders, 1, 0, 2, 7);
        Setup.armyOf("kind", orders, 2, 1, 2, 0);
        Setup.armyOf("to", orders, 3, 1, 10, -1);
        Setup.armyOf("from", orders, 4, -1, 6, -1);
        Setup.armyOf("succeeded", orders, 5, 0, 0, 0);
        Setup.armyOf("failed", orders, 6, 0, 0, 0);
        orders.open();
        Setup.give(orders, "0m2");
        orders.open();
        Setup.armyOf("succeeded", orders, 5, 1, 0, 0);
        Setup.armyOf("failed", orders, 6, 1, 0, 0);
    }

    private static void armyRefused() {
        FogOrders orders = Setup.armies(0, 0, 1, 1);
        Check.outOfBounds(orders, "armyOf(2, 0)", () -> orders.armyOf(2, 0));
        Check.outOfBounds(orders, "armyOf(2, 7)", () -> orders.armyOf(2, 7));
        Check.illegalArgument(orders, "armyOf(1, 7)", () -> orders.armyOf(1, 7));
        for (int bad : EXTREMES) {
            Check.outOfBounds(orders, "armyOf(" + bad + ", 0)", () -> orders.armyOf(bad, 0));
            Check.outOfBounds(orders, "armyOf(" + bad + ", 7)", () -> orders.armyOf(bad, 7));
            Check.illegalArgument(orders, "armyOf(0, " + bad + ")", () -> orders.armyOf(0, bad));
        }
        FogOrders none = new FogOrders();
        Check.outOfBounds(none, "armyOf(0, 0) of none", () -> none.armyOf(0, 0));
    }

    private static void fieldNumbers() {
        FogOrders orders = Setup.armies(2, 3, 0, 9, 1, 7);
        for (int field = 0; field < 12; field++) {
            int army = field == 3 ? 0 : field == 9 ? 1 : field == 7 ? 2 : -1;
            Check.due("army on " + field, orders.field(field, 0), army);
            Check.due("centre " + field, orders.field(field, 1), field % 3 == 0 ? 1 : 0);
            Check.due("owner of " + field, orders.field(field, 2), -1);
        }
        orders.open();
        orders.open();
        for (int field = 0; field < 12; field++) {
            int owner = field == 3 ? 2 : field == 9 ? 0 : -1;
            Check.due("owner of " + field, orders.field(field, 2), owner);
        }
        orders.drop(0);
        Check.due("army on 9 behind a drop", orders.field(9, 0), 0);
        Check.due("owner behind a drop", orders.field(3, 2), 2);
    }

    private static void neighbours() {
        int[][] near = {{1, 4, 8, 11}, {0, 2, 5, 9}, {1, 3, 6, 10}, {2, 4, 7, 11}, {0, 3, 5, 8}, {1, 4, 6, 9},
            {2, 5, 7, 10}, {3, 6, 8, 11}, {0, 4, 7, 9}, {1, 5, 8, 10}, {2, 6, 9, 11}, {0, 3, 7, 10}};
        for (int field = 0; field < 12; field++) {
            FogOrders orders = Setup.armies(1, field);
            int mask = Setup.mask(near[field]);
            Check.due("neighbours of " + field, orders.field(field, 4), mask);
            Check.due("seen from " + field, orders.seat(1, 2), mask | 1 << field);
            Check.due("reached from " + field, orders.canReach(0), mask);
        }
    }

    private static void fieldRefused() {
        FogOrders orders = Setup.armies(0, 0);
        Check.outOfBounds(orders, "field(12, 0)", () -> orders.field(12, 0));
        Check.outOfBounds(orders, "field(12, 5)", () -> orders.field(12, 5));
        Check.illegalArgument(orders, "field(11, 5)", () -> orders.field(11, 5));
        for (int bad : EXTREMES) {
            Check.outOfBounds(orders, "field(" + bad + ", 0)", () -> orders.field(bad, 0));
            Check.outOfBounds(orders, "field(" + bad + ", 5)", () -> orders.field(bad, 5));
            Check.illegalArgument(orders, "field(0, " + bad + ")", () -> orders.field(0, bad));
        }
    }

    private static void seatNumbers() {
        FogOrders orders = Setup.armies(0, 9, 0, 6, 2, 10, 0, 8);
        seat("set up", orders, 0, 3, 0, 6, 1);
        seat("set up", orders, 1, 0, 0, -1, 0);
        seat("set up", orders, 2, 1, 0, 10, 2);
        Check.due("seen by nobody's seat", orders.seat(1, 2), 0);
        orders.open();
        orders.open();
        seat("a year later", orders, 0, 3, 2, 6, 1);
        orders.drop(1);
        orders.drop(0);
        seat("behind drops", orders, 0, 1, 2, 8, 0);
        seat("behind drops", orders, 2, 1, 0, 10, 0);
    }

    private static void seat(String name, FogOrders orders, int seat, int armies, int centres, int low, int others) {
        Check.due(name + " seat(" + seat + ", 0)", orders.seat(seat, 0), armies);
        Check.due(name + " seat(" + seat + ", 1)", orders.seat(seat, 1), centres);
        Check.due(name + " seat(" + seat + ", 3)", orders.seat(seat, 3), low);
        Check.due(name + " seat(" + seat + ", 4)", orders.seat(seat, 4), others);
    }

    private static void seenFields() {
        FogOrders orders = Setup.armies(0, 0, 0, 1, 1, 2, 2, 7);
        Check.due("seen by 0", orders.seat(0, 2), Setup.mask(0, 1, 2, 4, 5, 8, 9, 11));
        Check.due("seen by 1", orders.seat(1, 2), Setup.mask(1, 2, 3, 6, 10));
        Check.due("seen by 2", orders.seat(2, 2), Setup.mask(3, 6, 7, 8, 11));
        Check.due("others seen by 0", orders.seat(0, 4), 1);
        Check.due("others seen by 1", orders.seat(1, 4), 1);
        Check.due("others seen by 2", orders.seat(2, 4), 0);
        for (int field = 0; field < 12; field++) {
            int mask = 0;
            for (int seat = 0; seat < 3; seat++) {
                mask |= (orders.seat(seat, 2) >> field & 1) << seat;
            }
            Check.due("seats that see " + field, orders.field(field, 3), mask);
        }
        Check.due("seats that see 1", orders.field(1, 3), 3);
        Check.due("seats that see 3", orders.field(3, 3), 6);
        Check.due("seats that see 7", orders.field(7, 3), 4);
    }

    private static void seatRefused() {
        FogOrders orders = Setup.armies(0, 0);
        Check.outOfBounds(orders, "seat(3, 0)", () -> orders.seat(3, 0));
        Check.outOfBounds(orders, "seat(3, 5)", () -> orders.seat(3, 5));
        Check.illegalArgument(orders, "seat(2, 5)", () -> orders.seat(2, 5));
        for (int bad : EXTREMES) {
            Check.outOfBounds(orders, "seat(" + bad + ", 0)", () -> orders.seat(bad, 0));
            Check.outOfBounds(orders, "seat(" + bad + ", 5)", () -> orders.seat(bad, 5));
            Check.illegalArgument(orders, "seat(0, " + bad + ")", () -> orders.seat(0, bad));
        }
    }

    private static void counts() {
        FogOrders orders = Setup.armies(0, 9, 1, 1, 0, 5, 1, 0, 1, 2, 2, 7);
        Setup.give(orders, "0m1;2s9-1;5m6;3s4-4");
        Check.due("moves now", orders.count(10), 2);
        Check.due("supports now", orders.count(11), 2);
        Check.due("open()", orders.open(), 0);
        counted("spring", orders, 5, 0, 1, 1, 2, 0, 1, 1, 0, 0, 0, 0, 6);
        Setup.give(orders, "0m2;4m10");
        Check.due("open()", orders.open(), 1);
        counted("autumn", orders, 4, 1, 0, 2, 3, 1, 1, 1, 0, 1, 0, 0, 6);
        for (int i = 0; i < 4; i++) {
            orders.drop(0);
        }
        orders.army(2, 11);
        orders.open();
        orders.army(2, 1);
        orders.open();
        counted("a year later", orders, 2, 2, 0, 4, 3, 1, 1, 1, 1, 2, 0, 0, 6);
    }

    private static void counted(String name, FogOrders orders, int... want) {
        Check.due(name + " numbers", want.length, 13);
        for (int what = 0; what < want.length; what++) {
            Check.due(name + " count(" + what + ")", orders.count(what), want[what]);
        }
    }

    private static void countRefused() {
        FogOrders orders = Setup.armies(0, 0);
        Check.illegalArgument(orders, "count(13)", () -> orders.count(13));
        for (int bad : Set.of(-1, -13, Integer.MIN_VALUE, Integer.MAX_VALUE)) {
            Check.illegalArgument(orders, "count(" + bad + ")", () -> orders.count(bad));
        }
    }
}
