/** "The map" and "Orders": each sentence that names a boundary, by a test of its own; the sentence stands above it. */
public final class MapEdgesTest {
    public static void main(String[] args) {
        twelveFields();
        neighbours();
        neighboursOverTheSeam();
        centres();
        centresOfNobody();
        threeSeats();
        nineArmies();
        numbersInTheOrderOfComing();
        numbersBehindADrop();
        numbersBehindADisbandedArmy();
        numbersBehindArmiesTakenOff();
        holdsAtFirst();
        oneArmyOnAField();
        seatsWithoutArmiesSeeNothing();
        seesOverTheSeam();
        moveToANeighbourOnly();
        supportToANeighbourOnly();
        supportFrom();
        Check.end("MapEdgesTest");
    }

    /** "There are 12 fields, numbered from 0." */
    private static void twelveFields() {
        FogOrders orders = new FogOrders();
        Check.due("field(0, 0)", orders.field(0, 0), -1);
        Check.due("field(11, 0)", orders.field(11, 0), -1);
        Check.outOfBounds(orders, "field(-1, 0)", () -> orders.field(-1, 0));
        Check.outOfBounds(orders, "field(12, 0)", () -> orders.field(12, 0));
        Check.due("army on 0", orders.army(0, 0), 0);
        Check.due("army on 11", orders.army(0, 11), 1);
        Check.outOfBounds(orders, "army on -1", () -> orders.army(0, -1));
        Check.outOfBounds(orders, "army on 12", () -> orders.army(0, 12));
    }

    /** "Two fields are neighbours, if their numbers differ by 1, 4, 8 or 11." */
    private static void neighbours() {
        boolean[] near = {false, true, false, false, true, false, false, false, true, false, false, true};
        for (int field = 0; field < 12; field++) {
            FogOrders orders = Setup.armies(0, field);
            for (int other = 0; other < 12; other++) {
                int to = other;
                boolean areNear = near[Math.abs(field - other)];
                String pair = field + " and " + other;
                Check.due("mask of " + pair, orders.field(field, 4) >> other & 1, areNear ? 1 : 0);
                Check.due("canReach " + pair, orders.canReach(0) >> other & 1, areNear ? 1 : 0);
                if (areNear) {
                    orders.move(0, other);
                    Check.due("move " + pair, orders.armyOf(0, 3), other);
                } else {
                    Check.illegalArgument(orders, "move " + pair, () -> orders.move(0, to));
                }
            }
        }
    }

    /** 0 and 11 are neighbours by the 11, though no other field is by that. */
    private static void neighboursOverTheSeam() {
        FogOrders orders = Setup.armies(0, 0, 1, 11);
        Check.due("mask of 0", orders.field(0, 4), 1 << 1 | 1 << 4 | 1 << 8 | 1 << 11);
        Check.due("mask of 11", orders.field(11, 4), 1 | 1 << 3 | 1 << 7 | 1 << 10);
        Check.due("move from 11 to 0", orders.move(1, 0), 0);
        Check.due("move from 0 to 11", orders.move(0, 11), 0);
        Check.due("both fail", orders.open(), 2);
        orders.drop(1);
        orders.move(0, 11);
        Check.due("0 to 11", orders.open(), 0);
        Check.due("on 11", orders.armyOf(0, 1), 11);
        orders.move(0, 0);
        Check.due("11 to 0", orders.open(), 0);
        Check.due("on 0", orders.armyOf(0, 1), 0);
    }

    /** "The fields 0, 3, 6 and 9 are centres": there is none on 12, and 11 is none. */
    private static void centres() {
        int[] due = {1, 0, 0, 1, 0, 0, 1, 0, 0, 1, 0, 0};
        for (int field = 0; field < 12; field++) {
            FogOrders orders = Setup.armies(1, field);
            Check.due("centre " + field, orders.field(field, 1), due[field]);
            Check.due("ifYear on " + field, orders.ifYear(1), due[field]);
            orders.open();
            orders.open();
            Check.due("owner of " + field, orders.field(field, 2), due[field] == 1 ? 1 : -1);
            Check.due("centres on " + field, orders.seat(1, 1), due[field]);
        }
    }

    /** "a centre belongs to a seat, or to nobody, at first to nobody." */
    private static void centresOfNobody() {
        FogOrders orders = Setup.armies(0, 0, 1, 3, 2, 6);
        for (int centre = 0; centre <= 9; centre += 3) {
            Check.due("at first " + centre, orders.field(centre, 2), -1);
        }
        orders.open();
        orders.open();
        int[] owners = {0, 1, 2, -1};
        for (int i = 0; i < 4; i++) {
            Check.due("owner of " + 3 * i, orders.field(3 * i, 2), owners[i]);
        }
    }

    /** "There are 3 seats, numbered from 0." */
    private static void threeSeats() {
        FogOrders orders = new FogOrders();
        for (int seat = 0; seat < 3; seat++) {
            Check.due("army of " + seat, orders.army(seat, seat), seat);
            Check.due("armies of " + seat, orders.seat(seat, 0), 1);
        }
        Check.outOfBounds(orders, "army of -1", () -> orders.army(-1, 5));
        Check.outOfBounds(orders, "army of 3", () -> orders.army(3, 5));
    }

    private static FogOrders nine() {
        return Setup.armies(0, 0, 1, 1, 2, 2, 0, 3, 1, 4, 2, 5, 0, 6, 1, 7, 2, 8);
    }

    /** "There are at most 9 armies": none at first, and no tenth, on whichever free field. */
    private static void nineArmies() {
        Check.due("at first", new FogOrders().count(0), 0);
        FogOrders orders = nine();
        Check.due("nine", orders.count(0), 9);
        for (int i = 9; i < 12; i++) {
            int field = i;
            Check.illegalState(orders, "a tenth on " + field, () -> orders.army(0, field));
        }
        Check.due("drop", orders.drop(0), 8);
        Check.due("a ninth", orders.army(0, 9), 8);
        Check.illegalState(orders, "a tenth again", () -> orders.army(0, 10));
    }

    /** "numbered from 0 in the order in which they came" */
    private static void numbersInTheOrderOfComing() {
        FogOrders orders = new FogOrders();
        int[] fields = {11, 3, 0, 7, 10, 1, 8, 2, 5};
        for (int i = 0; i < 9; i++) {
            Check.due("army " + i, orders.army(2 - i % 3, fields[i]), i);
        }
        Setup.armyOf("in order", orders, 0, 2, 1, 0, 2, 1, 0, 2, 1, 0);
        Setup.armyOf("in order", orders, 1, fields);
    }

    /** "if one goes, those behind it have numbers that are less by 1": the first, one between, the last, the only. */
    private static void numbersBehindADrop() {
        FogOrders orders = nine();
        orders.move(8, 9);
        Check.due("drop the first", orders.drop(0), 8);
        Setup.armyOf("without the first", orders, 1, 1, 2, 3, 4, 5, 6, 7, 8);
        Setup.armyOf("without the first", orders, 3, -1, -1, -1, -1, -1, -1, -1, 9);
        Check.due("drop one between", orders.drop(3), 7);
        Setup.armyOf("without one between", orders, 1, 1, 2, 3, 5, 6, 7, 8);
        Check.due("drop the last", orders.drop(6), 6);
        Setup.armyOf("without the last", orders, 1, 1, 2, 3, 5, 6, 7);
        FogOrders moved = Setup.armies(0, 0, 1, 1, 2, 2);
        Setup.give(moved, "0m1");
        moved.open();
        Setup.give(moved, "0m1;2m1");
        moved.open();
        moved.drop(1);
        Setup.armyOf("moves that failed", moved, 6, 2, 1);
        FogOrders one = Setup.armies(1, 4);
        Check.due("drop the only one", one.drop(0), 0);
        Check.due("nobody on its field", one.field(4, 0), -1);
    }

    /** The same, if the army goes by opening. */
    private static void numbersBehindADisbandedArmy() {
        FogOrders orders = Setup.armies(1, 1, 0, 9, 0, 5, 1, 0, 2, 2);
        Setup.give(orders, "1m1;2s9-1");
        orders.open();
        Setup.armyOf("behind the first", orders, 1, 1, 5, 0, 2);
        Setup.armyOf("behind the first", orders, 5, 1, 0, 0, 0);
    }

    /** The same, if armies go at the end of a year. */
    private static void numbersBehindArmiesTakenOff() {
        FogOrders orders = Setup.armies(0, 1, 0, 2, 1, 4, 0, 5, 2, 7);
        orders.open();
        orders.open();
        Setup.armyOf("behind two", orders, 1, 1, 4, 7);
        Setup.armyOf("behind two", orders, 0, 0, 1, 2);
    }

    /** "An army has a seat, a field, and an order, at first to hold." */
    private static void holdsAtFirst() {
        FogOrders orders = Setup.armies(2, 11);
        for (int what = 0; what <= 6; what++) {
            Check.due("first number " + what, orders.armyOf(0, what), new int[] {2, 11, 0, -1, -1, 0, 0}[what]);
        }
        Check.due("hold", orders.hold(0), 0);
        orders.army(2, 3);
        Setup.give(orders, "0m3");
        orders.open();
        Setup.give(orders, "0m10");
        orders.open();
        Setup.give(orders, "0s9-9");
        orders.drop(1);
        orders.drop(0);
        orders.army(1, 0);
        for (int what = 0; what <= 6; what++) {
            Check.due("in the old place " + what, orders.armyOf(0, what), new int[] {1, 0, 0, -1, -1, 0, 0}[what]);
        }
    }

    /** "No two armies stand on one field." */
    private static void oneArmyOnAField() {
        for (int i = 0; i < 12; i++) {
            int field = i;
            FogOrders orders = Setup.armies(1, field);
            Check.illegalState(orders, "its own seat on " + field, () -> orders.army(1, field));
            Check.illegalState(orders, "another seat on " + field, () -> orders.army(2, field));
            orders.drop(0);
            Check.due("on the field left", orders.army(2, field), 0);
        }
    }

    /** "A seat sees the fields on which its armies stand, and their neighbours." */
    private static void seatsWithoutArmiesSeeNothing() {
        FogOrders orders = Setup.armies(1, 5);
        Check.due("seen by 0", orders.seat(0, 2), 0);
        Check.due("seen by 1", orders.seat(1, 2), Setup.mask(1, 4, 5, 6, 9));
        Check.due("armies seen by 0", orders.seat(0, 4), 0);
        for (int field = 0; field < 12; field++) {
            Check.due("who sees " + field, orders.field(field, 3), (orders.seat(1, 2) >> field & 1) << 1);
        }
    }

    /** The same for 0 and 11. */
    private static void seesOverTheSeam() {
        FogOrders orders = Setup.armies(0, 0, 2, 11);
        Check.due("seen from 0", orders.seat(0, 2), Setup.mask(0, 1, 4, 8, 11));
        Check.due("seen from 11", orders.seat(2, 2), Setup.mask(0, 3, 7, 10, 11));
        Check.due("armies seen from 0", orders.seat(0, 4), 1);
        Check.due("armies seen from 11", orders.seat(2, 4), 1);
        Check.due("who sees 0", orders.field(0, 3), 5);
        Check.due("who sees 11", orders.field(11, 3), 5);
        Check.due("who sees 10", orders.field(10, 3), 4);
        Check.due("who sees 6", orders.field(6, 3), 0);
    }

    /** "to move to a neighbour": not to its own field. */
    private static void moveToANeighbourOnly() {
        FogOrders orders = Setup.armies(0, 6);
        Check.illegalArgument(orders, "move to its own field", () -> orders.move(0, 6));
        Check.illegalArgument(orders, "move 2 away", () -> orders.move(0, 8));
        Check.illegalArgument(orders, "move 3 away", () -> orders.move(0, 9));
        Check.illegalArgument(orders, "move 5 away", () -> orders.move(0, 11));
        Check.due("move 4 away", orders.move(0, 10), 0);
    }

    /** "a field "to", which is a neighbour of the supporting army's field (and not that one itself)" */
    private static void supportToANeighbourOnly() {
        FogOrders orders = Setup.armies(0, 0, 1, 11);
        Check.illegalArgument(orders, "support on its own field", () -> orders.support(0, 0, 0));
        Check.illegalArgument(orders, "support of a move to its own field", () -> orders.support(0, 1, 0));
        Check.illegalArgument(orders, "support 2 away", () -> orders.support(0, 2, 2));
        Check.illegalArgument(orders, "support 3 away", () -> orders.support(0, 4, 3));
        Check.due("support over the seam", orders.support(0, 11, 11), 0);
        Check.due("support over the seam", orders.support(1, 0, 0), 0);
    }

    /** "if to is no neighbour of its field, or from is neither to nor a neighbour of to" */
    private static void supportFrom() {
        FogOrders orders = Setup.armies(0, 0);
        Check.due("from is to", orders.support(0, 11, 11), 0);
        Check.due("from is a neighbour of to", orders.support(0, 10, 11), 2);
        Check.due("from is the supporter's field", orders.support(0, 0, 11), 2);
        Check.illegalArgument(orders, "from is 2 away from to", () -> orders.support(0, 9, 11));
        Check.illegalArgument(orders, "from is beside the supporter, not beside to", () -> orders.support(0, 1, 11));
        Check.illegalArgument(orders, "from is to's mirror", () -> orders.support(0, 5, 11));
        Check.due("the order stays", orders.armyOf(0, 4), 0);
    }
}
