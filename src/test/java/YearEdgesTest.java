/** "Seasons, years": each sentence that names a boundary, by a test of its own; the sentence stands above it. */
public final class YearEdgesTest {
    public static void main(String[] args) {
        seasonsInTurn();
        manyYears();
        noYearEndsInSpring();
        armiesOnCentresTakeThem();
        centresLeftStay();
        retreatToACentre();
        ownersChange();
        oneMoreThanCentres();
        highestNumbersGo();
        untilItHasNot();
        asManyAsCentres();
        oneLessThanCentres();
        oneIsBuiltNotMore();
        builtOnTheLowest();
        noCentreOfItsOwn();
        noFreeCentre();
        eightAndNineArmies();
        seatsFromZeroOn();
        takenOffBeforeBuilding();
        builtArmies();
        builtOrTakenOffNotBoth();
        ifYearInAnySeason();
        ifYearOfNoneAndOfAll();
        Check.end("YearEdgesTest");
    }

    private static void open(FogOrders orders, int times) {
        for (int i = 0; i < times; i++) {
            orders.open();
        }
    }

    private static void owners(String name, FogOrders orders, int... want) {
        for (int i = 0; i < 4; i++) {
            Check.due(name + " owner of " + 3 * i, orders.field(3 * i, 2), want[i]);
        }
    }

    private static void drop(FogOrders orders, int times) {
        for (int i = 0; i < times; i++) {
            orders.drop(0);
        }
    }

    /** "There are two seasons, spring and autumn, in turn, from spring of the year 0 on." */
    private static void seasonsInTurn() {
        FogOrders orders = new FogOrders();
        int[][] due = {{0, 0}, {0, 1}, {1, 0}, {1, 1}, {2, 0}, {2, 1}, {3, 0}};
        for (int i = 0; i < due.length; i++) {
            Check.due("year behind " + i, orders.count(1), due[i][0]);
            Check.due("season behind " + i, orders.count(2), due[i][1]);
            orders.open();
        }
    }

    /** "An object is used for at most 512 calls": 511 openings, and the look at the last year. */
    private static void manyYears() {
        FogOrders orders = new FogOrders();
        open(orders, 511);
        Check.due("year behind 511", orders.count(1), 255);
        FogOrders autumn = new FogOrders();
        open(autumn, 511);
        Check.due("season behind 511", autumn.count(2), 1);
        FogOrders mover = Setup.armies(0, 0);
        for (int i = 0; i < 255; i++) {
            mover.move(0, i % 2 == 0 ? 1 : 0);
            mover.open();
        }
        Check.due("moves in 510 calls", mover.armyOf(0, 5), 255);
    }

    /** "Behind the opening of an autumn the year ends": in spring no centre changes, none is built or taken off. */
    private static void noYearEndsInSpring() {
        FogOrders orders = Setup.armies(0, 0, 0, 1, 0, 2);
        open(orders, 1);
        owners("spring", orders, -1, -1, -1, -1);
        Check.due("armies in spring", orders.count(0), 3);
        open(orders, 1);
        owners("autumn", orders, 0, -1, -1, -1);
        Check.due("armies behind autumn", orders.count(0), 2);
        drop(orders, 2);
        open(orders, 1);
        Check.due("none is built in spring", orders.count(0), 0);
        open(orders, 1);
        Check.due("one is built behind autumn", orders.count(0), 1);
    }

    /** "each centre on which an army stands belongs to its seat": where it stands behind the opening. */
    private static void armiesOnCentresTakeThem() {
        FogOrders orders = Setup.armies(0, 0, 1, 2, 2, 6, 0, 10, 1, 8);
        open(orders, 1);
        Setup.give(orders, "0m1;1m3;3m9;4m9");
        Check.due("open()", orders.open(), 2);
        owners("behind the moves", orders, -1, 1, 2, -1);
    }

    /** A centre on which none stands belongs to whom it belonged. */
    private static void centresLeftStay() {
        FogOrders orders = Setup.armies(0, 0, 1, 3, 2, 6);
        open(orders, 2);
        Setup.give(orders, "0m1;1m2");
        open(orders, 2);
        owners("left", orders, 0, 1, 2, -1);
        drop(orders, 3);
        open(orders, 1);
        owners("without armies", orders, 0, 1, 2, -1);
    }

    /** An army that retreated to a centre stands on it, and one that was driven off does not. */
    private static void retreatToACentre() {
        FogOrders orders = Setup.armies(1, 1, 0, 9, 0, 5);
        open(orders, 1);
        Setup.give(orders, "1m1;2s9-1");
        open(orders, 1);
        owners("retreat to 0", orders, 1, -1, -1, -1);
        FogOrders driven = Setup.armies(1, 3, 2, 2, 2, 7);
        open(driven, 1);
        Setup.give(driven, "1m3;2s2-3");
        open(driven, 1);
        owners("driven off 3", driven, -1, 2, -1, -1);
    }

    private static void ownersChange() {
        FogOrders orders = Setup.armies(0, 0, 1, 11);
        open(orders, 2);
        Setup.give(orders, "0m1;1m0");
        open(orders, 1);
        owners("in spring", orders, 0, -1, -1, -1);
        open(orders, 1);
        owners("behind autumn", orders, 1, -1, -1, -1);
        Check.due("centres of 0", orders.seat(0, 1), 0);
        Check.due("centres of 1", orders.seat(1, 1), 1);
    }

    /** "if it has more armies than centres and 1, together": 1 and 0, 2 and 0, 2 and 1, 3 and 1, 5 and 4, 6 and 4. */
    private static void oneMoreThanCentres() {
        int[][] fields = {{1}, {1, 2}, {0, 1}, {0, 1, 2}, {0, 3, 6, 9, 1}, {0, 3, 6, 9, 1, 2}};
        int[] left = {1, 1, 2, 2, 5, 5};
        for (int i = 0; i < fields.length; i++) {
            FogOrders orders = new FogOrders();
            for (int field : fields[i]) {
                orders.army(1, field);
            }
            open(orders, 2);
            Check.due("left of " + fields[i].length, orders.count(0), left[i]);
            Check.due("taken off of " + fields[i].length, orders.count(9), fields[i].length - left[i]);
            Check.due("built for " + fields[i].length, orders.count(8), 0);
            Check.due("disbanded of " + fields[i].length, orders.count(7), 0);
        }
    }

    /** "its armies with the highest numbers are taken off": not those of other seats, though on a centre. */
    private static void highestNumbersGo() {
        FogOrders orders = Setup.armies(0, 1, 1, 2, 0, 4, 2, 5, 0, 0, 1, 7);
        open(orders, 2);
        Setup.armyOf("seats", orders, 0, 0, 1, 0, 2);
        Setup.armyOf("fields", orders, 1, 1, 2, 4, 5);
        owners("a centre of one taken off", orders, 0, -1, -1, -1);
        Check.due("taken off", orders.count(9), 2);
    }

    /** "one after the other, until it has not": eight of nine. */
    private static void untilItHasNot() {
        FogOrders orders = Setup.armies(2, 1, 2, 2, 2, 4, 2, 5, 2, 7, 2, 8, 2, 10, 2, 11);
        open(orders, 1);
        orders.army(2, 9);
        orders.move(8, 10);
        Check.due("open()", orders.open(), 1);
        Setup.armyOf("the first two stay, for one centre", orders, 1, 1, 2);
        Check.due("taken off", orders.count(9), 7);
        FogOrders none = Setup.armies(2, 1, 2, 2, 2, 4, 2, 5, 2, 7, 2, 8, 2, 10, 2, 11, 0, 3);
        open(none, 2);
        Setup.armyOf("the first stays, for none", none, 1, 1, 3);
        Check.due("taken off", none.count(9), 7);
    }

    /** "otherwise, if it has fewer armies than centres": with as many none is built, though a centre is free. */
    private static void asManyAsCentres() {
        FogOrders orders = Setup.armies(0, 0);
        open(orders, 2);
        orders.move(0, 1);
        open(orders, 2);
        Check.due("1 and 1", orders.count(0), 1);
        Check.due("0 and 0", orders.seat(1, 0), 0);
        Check.due("none is built", orders.count(8), 0);
        Check.due("none is taken off", orders.count(9), 0);
    }

    private static void oneLessThanCentres() {
        FogOrders orders = Setup.armies(0, 0);
        open(orders, 2);
        orders.drop(0);
        open(orders, 2);
        Check.due("0 and 1", orders.count(0), 1);
        Check.due("one is built", orders.count(8), 1);
        Check.due("on 0", orders.field(0, 0), 0);
    }

    /** "an army is built": one a year, with no army and four centres as well. */
    private static void oneIsBuiltNotMore() {
        FogOrders orders = Setup.armies(1, 0, 1, 3, 1, 6, 1, 9);
        open(orders, 2);
        drop(orders, 4);
        for (int i = 1; i <= 5; i++) {
            open(orders, 2);
            Check.due("armies in the year " + (i + 1), orders.count(0), Math.min(i, 4));
        }
        Check.due("built", orders.count(8), 4);
        Setup.armyOf("from the lowest on", orders, 1, 0, 3, 6, 9);
    }

    /** "on the lowest centre of its own on which none stands" */
    private static void builtOnTheLowest() {
        FogOrders orders = Setup.armies(0, 0, 0, 3, 0, 9, 1, 6);
        open(orders, 2);
        orders.drop(2);
        orders.drop(1);
        open(orders, 2);
        Setup.armyOf("0 is taken", orders, 1, 0, 6, 3);
        open(orders, 2);
        Setup.armyOf("0, 3 and another's 6 are taken", orders, 1, 0, 6, 3, 9);
        FogOrders last = Setup.armies(0, 0, 0, 9);
        open(last, 2);
        last.drop(1);
        open(last, 2);
        Setup.armyOf("not on nobody's", last, 1, 0, 9);
    }

    /** "of its own": a lower one that is free is another seat's, or nobody's. */
    private static void noCentreOfItsOwn() {
        FogOrders orders = Setup.armies(1, 0, 0, 9, 0, 6);
        open(orders, 2);
        orders.drop(2);
        orders.move(0, 1);
        open(orders, 2);
        Setup.armyOf("built on 6", orders, 1, 1, 9, 6);
        Check.due("one is built", orders.count(8), 1);
        owners("as before", orders, 1, -1, 0, 0);
    }

    /**
     * "on which none stands, if there is one": another's army on a centre takes it before,
     * so that a seat with fewer armies than centres has a free one at any rate.
     */
    private static void noFreeCentre() {
        FogOrders orders = Setup.armies(0, 0, 0, 3, 1, 2);
        open(orders, 2);
        orders.drop(1);
        open(orders, 1);
        orders.move(1, 3);
        open(orders, 1);
        owners("3 is lost", orders, 0, 1, -1, -1);
        Check.due("none is built", orders.count(8), 0);
        Setup.armyOf("none is built", orders, 1, 0, 3);
        orders.move(1, 2);
        orders.move(0, 4);
        open(orders, 2);
        Check.due("none on a free one of another seat", orders.count(8), 0);
    }

    /** Seat 0 with one army and the centres 0 and 3, in spring, and so many armies of the seats 1 and 2. */
    private static FogOrders besideSeatZero(int... seats) {
        FogOrders orders = Setup.armies(0, 0, 0, 3, 1, 6, 2, 9);
        open(orders, 2);
        drop(orders, 4);
        orders.army(0, 0);
        int[] fields = {6, 9, 1, 2, 4, 5, 7, 8};
        for (int i = 0; i < seats.length; i++) {
            orders.army(seats[i], fields[i]);
        }
        return orders;
    }

    /** "(and if there are fewer than 9 armies)" */
    private static void eightAndNineArmies() {
        FogOrders eight = besideSeatZero(1, 2, 1, 2, 1, 2, 1);
        Check.due("eight", eight.count(0), 8);
        open(eight, 2);
        Check.due("the ninth is built", eight.count(8), 1);
        Check.due("taken off behind it", eight.count(9), 3);
        Check.due("armies of 0", eight.seat(0, 0), 2);
        FogOrders nine = besideSeatZero(1, 2, 1, 2, 1, 2, 1, 2);
        Check.due("nine", nine.count(0), 9);
        open(nine, 2);
        Check.due("no tenth is built", nine.count(8), 0);
        Check.due("taken off behind it", nine.count(9), 4);
        Check.due("armies of 0", nine.seat(0, 0), 1);
        open(nine, 2);
        Check.due("a year later it is", nine.count(8), 1);
    }

    /** "Then, for each seat from 0 on": the ninth army is that of the lower seat. */
    private static void seatsFromZeroOn() {
        FogOrders orders = Setup.armies(0, 0, 0, 3, 1, 6, 1, 9);
        open(orders, 2);
        orders.drop(3);
        orders.drop(1);
        for (int field : new int[] {1, 2, 4, 5, 7, 8}) {
            orders.army(2, field);
        }
        Check.due("eight", orders.count(0), 8);
        open(orders, 2);
        Check.due("one is built", orders.count(8), 1);
        Check.due("for 0", orders.seat(0, 0), 2);
        Check.due("not for 1", orders.seat(1, 0), 1);
        Check.due("five of 2 are taken off", orders.count(9), 5);
        FogOrders three = Setup.armies(2, 0, 1, 3, 0, 6);
        open(three, 2);
        drop(three, 3);
        open(three, 2);
        Setup.armyOf("built in the order of seats", three, 0, 0, 1, 2);
        Setup.armyOf("built in the order of seats", three, 1, 6, 3, 0);
    }

    /** Of nine armies those that the seat 0 loses make room for the seat 1. */
    private static void takenOffBeforeBuilding() {
        FogOrders orders = Setup.armies(1, 0, 1, 3);
        open(orders, 2);
        orders.drop(1);
        for (int field : new int[] {1, 2, 4, 5, 7, 8, 10, 11}) {
            orders.army(0, field);
        }
        Check.due("nine", orders.count(0), 9);
        open(orders, 2);
        Check.due("taken off", orders.count(9), 7);
        Check.due("built", orders.count(8), 1);
        Setup.armyOf("seats", orders, 0, 1, 0, 1);
        Setup.armyOf("fields", orders, 1, 0, 1, 3);
    }

    /** A built army comes last, holds, and has no move so far. */
    private static void builtArmies() {
        FogOrders orders = Setup.armies(0, 0, 0, 3, 1, 5);
        open(orders, 2);
        orders.drop(0);
        Setup.give(orders, "0m2;1m4");
        open(orders, 1);
        Setup.give(orders, "0m3;1m3");
        open(orders, 1);
        int[][] due = {{0, 1, 0}, {2, 4, 0}, {0, 0, 0}, {-1, -1, -1}, {-1, -1, -1}, {1, 1, 0}, {1, 1, 0}};
        for (int what = 0; what <= 6; what++) {
            Setup.armyOf("built", orders, what, due[what]);
        }
        Check.due("built", orders.count(8), 1);
    }

    private static void builtOrTakenOffNotBoth() {
        FogOrders orders = Setup.armies(0, 0, 0, 1, 0, 2, 0, 4);
        open(orders, 1);
        Setup.give(orders, "0m11");
        open(orders, 1);
        Check.due("taken off", orders.count(9), 3);
        Check.due("built", orders.count(8), 0);
        Check.due("year", orders.count(1), 1);
    }

    /** "if the year ended behind an opening now": in spring as in autumn, with the orders of now. */
    private static void ifYearInAnySeason() {
        FogOrders orders = Setup.armies(0, 0, 1, 2);
        for (int season = 0; season < 2; season++) {
            orders.move(1, 3);
            Check.due("ifYear(0) in " + season, orders.ifYear(0), 1);
            Check.due("ifYear(1) in " + season, orders.ifYear(1), 1);
            Check.due("ifYear(2) in " + season, orders.ifYear(2), 0);
            orders.hold(1);
            Check.due("ifYear(1) of a holder in " + season, orders.ifYear(1), 0);
            orders.open();
        }
        Check.due("centres now", orders.seat(0, 1), 1);
    }

    private static void ifYearOfNoneAndOfAll() {
        FogOrders orders = new FogOrders();
        Check.due("ifYear without armies", orders.ifYear(0), 0);
        for (int centre = 0; centre <= 9; centre += 3) {
            orders.army(2, centre);
            Check.due("ifYear with " + centre, orders.ifYear(2), centre / 3 + 1);
            Check.due("centres with " + centre, orders.seat(2, 1), 0);
        }
        open(orders, 2);
        Check.due("centres", orders.seat(2, 1), 4);
        drop(orders, 4);
        orders.army(1, 0);
        Check.due("ifYear, one taken", orders.ifYear(2), 3);
        Check.due("ifYear, of its taker", orders.ifYear(1), 1);
        Check.due("ifYear of nobody", orders.ifYear(0), 0);
    }
}
