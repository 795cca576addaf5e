/** Promise 7, open: seasons and years, centres, armies that are built and taken off. */
public final class YearTest {
    public static void main(String[] args) {
        seasons();
        centresInAutumn();
        centresStayAndChange();
        onlyCentres();
        takenOff();
        takenOffBeyondCentres();
        built();
        builtOnTheLowestFree();
        oneIsBuiltAYear();
        neitherBuiltNorTakenOff();
        noneBuiltWithNine();
        builtBehindTakingOff();
        orderOfSeats();
        Check.end("YearTest");
    }

    private static void open(FogOrders orders, int times) {
        for (int i = 0; i < times; i++) {
            orders.open();
        }
    }

    private static void owners(String name, FogOrders orders, int on0, int on3, int on6, int on9) {
        Check.due(name + " owner of 0", orders.field(0, 2), on0);
        Check.due(name + " owner of 3", orders.field(3, 2), on3);
        Check.due(name + " owner of 6", orders.field(6, 2), on6);
        Check.due(name + " owner of 9", orders.field(9, 2), on9);
    }

    private static void seasons() {
        FogOrders orders = new FogOrders();
        for (int i = 0; i < 7; i++) {
            Check.due("season behind " + i, orders.count(2), i % 2);
            Check.due("year behind " + i, orders.count(1), i / 2);
            Check.due("openings behind " + i, orders.count(3), i);
            orders.open();
        }
        orders.undo();
        Check.due("season undone", orders.count(2), 0);
        Check.due("year undone", orders.count(1), 3);
    }

    private static void centresInAutumn() {
        FogOrders orders = Setup.armies(2, 0, 1, 9);
        open(orders, 1);
        owners("behind spring", orders, -1, -1, -1, -1);
        open(orders, 1);
        owners("behind autumn", orders, 2, -1, -1, 1);
        orders.undo();
        owners("undone", orders, -1, -1, -1, -1);
        orders.move(0, 1);
        open(orders, 1);
        owners("left in autumn", orders, -1, -1, -1, 1);
    }

    private static void centresStayAndChange() {
        FogOrders orders = Setup.armies(0, 0, 1, 8);
        open(orders, 2);
        orders.move(0, 1);
        orders.move(1, 0);
        open(orders, 1);
        owners("entered in spring", orders, 0, -1, -1, -1);
        open(orders, 1);
        owners("entered, in autumn", orders, 1, -1, -1, -1);
        orders.move(1, 4);
        open(orders, 2);
        owners("left", orders, 1, -1, -1, -1);
    }

    private static void onlyCentres() {
        for (int field = 0; field < 12; field++) {
            FogOrders orders = Setup.armies(1, field);
            open(orders, 2);
            boolean centre = field == 0 || field == 3 || field == 6 || field == 9;
            Check.due("owner of " + field, orders.field(field, 2), centre ? 1 : -1);
            Check.due("centres with " + field, orders.seat(1, 1), centre ? 1 : 0);
        }
    }

    private static void takenOff() {
        FogOrders orders = Setup.armies(0, 1, 1, 2, 0, 4, 1, 5, 0, 7);
        open(orders, 1);
        Check.due("none is taken off in spring", orders.count(0), 5);
        open(orders, 1);
        Setup.armyOf("one each stays", orders, 0, 0, 1);
        Setup.armyOf("one each stays", orders, 1, 1, 2);
        Check.due("taken off", orders.count(9), 3);
        Check.due("disbanded", orders.count(7), 0);
        orders.undo();
        Check.due("undone", orders.count(0), 5);
    }

    private static void takenOffBeyondCentres() {
        FogOrders orders = Setup.armies(0, 0, 0, 3, 0, 1, 0, 2, 0, 4);
        open(orders, 2);
        Setup.armyOf("two centres and one", orders, 1, 0, 3, 1);
        Check.due("taken off", orders.count(9), 2);
        Check.due("built", orders.count(8), 0);
        FogOrders last = Setup.armies(0, 1, 0, 2, 0, 4, 0, 3, 0, 0);
        open(last, 2);
        Setup.armyOf("the last go, though on centres", last, 1, 1, 2, 4);
        owners("the last go, though on centres", last, 0, 0, -1, -1);
    }

    /** Brings seat 0 to the centres 0 and 3 and an army on 3, in the spring of the year 1. */
    private static FogOrders twoCentres() {
        FogOrders orders = Setup.armies(0, 0, 0, 3);
        open(orders, 2);
        orders.drop(0);
        return orders;
    }

    private static void built() {
        FogOrders orders = twoCentres();
        orders.move(0, 2);
        open(orders, 1);
        orders.move(0, 3);
        open(orders, 1);
        Setup.armyOf("built", orders, 0, 0, 0);
        Setup.armyOf("built", orders, 1, 3, 0);
        Setup.armyOf("built", orders, 2, 0, 0);
        Setup.armyOf("built", orders, 3, -1, -1);
        Setup.armyOf("built", orders, 4, -1, -1);
        Setup.armyOf("built", orders, 5, 2, 0);
        Setup.armyOf("built", orders, 6, 0, 0);
        Check.due("built", orders.count(8), 1);
        Check.due("taken off", orders.count(9), 0);
    }

    private static void builtOnTheLowestFree() {
        FogOrders orders = twoCentres();
        orders.move(0, 4);
        open(orders, 1);
        orders.move(0, 0);
        open(orders, 1);
        Setup.armyOf("lowest free centre", orders, 1, 0, 3);
    }

    private static void oneIsBuiltAYear() {
        FogOrders orders = Setup.armies(1, 0, 1, 3, 1, 6, 1, 9);
        open(orders, 2);
        open(orders, 1);
        for (int i = 0; i < 4; i++) {
            orders.drop(0);
        }
        open(orders, 1);
        Setup.armyOf("first year", orders, 1, 0);
        open(orders, 2);
        Setup.armyOf("second year", orders, 1, 0, 3);
        open(orders, 4);
        Setup.armyOf("fourth year", orders, 1, 0, 3, 6, 9);
        open(orders, 2);
        Check.due("no more than centres", orders.count(0), 4);
        Check.due("built", orders.count(8), 4);
    }

    private static void neitherBuiltNorTakenOff() {
        FogOrders same = Setup.armies(0, 0);
        open(same, 2);
        Check.due("as many as centres", same.count(0), 1);
        same.move(0, 1);
        open(same, 2);
        Check.due("as many as centres, and one is free", same.count(0), 1);
        Check.due("none is built", same.count(8), 0);
        FogOrders more = Setup.armies(0, 0, 0, 1);
        open(more, 2);
        Check.due("one more than centres", more.count(0), 2);
        FogOrders none = Setup.armies(0, 1);
        open(none, 2);
        Check.due("one without centres", none.count(0), 1);
    }

    private static final int[] EIGHT_FIELDS = {1, 2, 4, 5, 7, 8, 10, 11};

    private static void fill(FogOrders orders, int seat) {
        for (int field : EIGHT_FIELDS) {
            orders.army(seat, field);
        }
        Check.due("armies", orders.count(0), 9);
    }

    private static void noneBuiltWithNine() {
        FogOrders orders = twoCentres();
        fill(orders, 1);
        open(orders, 1);
        Check.due("nine", orders.count(0), 9);
        open(orders, 1);
        Check.due("none is built", orders.count(8), 0);
        Check.due("seven are taken off behind it", orders.count(9), 7);
        Setup.armyOf("none is built", orders, 1, 3, 1);
        open(orders, 2);
        Check.due("a year later one is", orders.count(8), 1);
    }

    private static void builtBehindTakingOff() {
        FogOrders orders = Setup.armies(2, 0, 2, 3);
        open(orders, 2);
        orders.drop(1);
        fill(orders, 1);
        open(orders, 2);
        Check.due("one is built", orders.count(8), 1);
        Check.due("seven are taken off before", orders.count(9), 7);
        Setup.armyOf("the built one is the last", orders, 0, 2, 1, 2);
        Setup.armyOf("the built one is the last", orders, 1, 0, 1, 3);
    }

    private static void orderOfSeats() {
        FogOrders orders = Setup.armies(2, 0, 2, 3, 0, 6, 0, 9);
        open(orders, 2);
        for (int i = 0; i < 4; i++) {
            orders.drop(0);
        }
        open(orders, 2);
        Setup.armyOf("seat 0 builds first", orders, 0, 0, 2);
        Setup.armyOf("seat 0 builds first", orders, 1, 6, 0);
    }
}
