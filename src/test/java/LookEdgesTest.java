import java.math.BigInteger;

/** Promises 15 to 24: each sentence that names a boundary, by a test of its own; the sentence stands above it. */
public final class LookEdgesTest {
    public static void main(String[] args) {
        noFieldTo();
        noFieldFrom();
        movesOfAnArmy();
        noArmyOnAField();
        ownerOfNoCentre();
        masks();
        seatOfNoArmies();
        lowestField();
        othersThatASeatSees();
        countsAtFirst();
        ordersNow();
        drivenOffAndDisbanded();
        standsNowhere();
        beforeTheYearEnds();
        reasonOfNoMove();
        supportThatCounts();
        reachesNothingOrAll();
        reachesInOthersOrders();
        noDanger();
        greatestDanger();
        successWithoutMoves();
        successOfNoneAndAll();
        successSharesAreNotRounded();
        looksChangeNothing();
        digestsReckonedElsewhere();
        digestOverflows();
        digestOfTheBuffer();
        digestOfNineArmies();
        Check.end("LookEdgesTest");
    }

    private static FogOrders given(String text, int... seatsAndFields) {
        return Setup.give(Setup.armies(seatsAndFields), text);
    }

    /** "3: the field to of its order, NONE if it is to hold" */
    private static void noFieldTo() {
        FogOrders orders = given("0m0;1s0-0", 1, 11, 0, 1);
        Setup.armyOf("0 is a field, not NONE", orders, 3, 0, 0);
        orders.hold(0);
        orders.hold(1);
        Setup.armyOf("NONE", orders, 3, FogOrders.NONE, FogOrders.NONE);
    }

    /** "4: the field from, NONE if it is not to support" */
    private static void noFieldFrom() {
        FogOrders orders = given("0m0;1s0-0", 1, 11, 0, 1);
        Setup.armyOf("of a move and of a support", orders, 4, -1, 0);
        orders.move(1, 0);
        Setup.armyOf("it is to move then", orders, 4, -1, -1);
        orders.support(1, 4, 0);
        orders.hold(1);
        Setup.armyOf("it is to hold then", orders, 4, -1, -1);
    }

    /** "5: moves of it that succeeded so far; 6: moves of it that failed so far": a retreat is none. */
    private static void movesOfAnArmy() {
        FogOrders orders = given("1m1;2s0-1;3m4", 1, 1, 0, 0, 0, 2, 1, 3);
        orders.army(1, 4);
        orders.open();
        Setup.armyOf("succeeded", orders, 5, 0, 1, 0, 0, 0);
        Setup.armyOf("failed", orders, 6, 0, 0, 0, 1, 0);
        Check.due("the retreat", orders.armyOf(0, 1), 5);
    }

    /** "0: the army on it, NONE without one" */
    private static void noArmyOnAField() {
        FogOrders orders = Setup.armies(0, 11, 1, 0);
        Check.due("on 11", orders.field(11, 0), 0);
        Check.due("on 0", orders.field(0, 0), 1);
        Check.due("on 5", orders.field(5, 0), FogOrders.NONE);
        orders.drop(0);
        Check.due("on 11", orders.field(11, 0), FogOrders.NONE);
        Check.due("on 0", orders.field(0, 0), 0);
    }

    /** "NONE if to none (or if it is no centre)" */
    private static void ownerOfNoCentre() {
        FogOrders orders = Setup.armies(0, 0, 0, 1, 2, 11);
        orders.open();
        orders.open();
        int[] due = {0, -1, -1, -1, -1, -1, -1, -1, -1, -1, -1, -1};
        for (int field = 0; field < 12; field++) {
            Check.due("owner of " + field, orders.field(field, 2), due[field]);
        }
    }

    /** "with the bit s for the seat s", "with the bit f for the field f": the lowest and the highest bit. */
    private static void masks() {
        FogOrders orders = Setup.armies(0, 0, 2, 11);
        Check.due("seats that see 0", orders.field(0, 3), 0b101);
        Check.due("seats that see 1", orders.field(1, 3), 0b001);
        Check.due("seats that see 7", orders.field(7, 3), 0b100);
        Check.due("seats that see 5", orders.field(5, 3), 0);
        Check.due("neighbours of 11", orders.field(11, 4), 0b010010001001);
        Check.due("neighbours of 0", orders.field(0, 4), 0b100100010010);
        Check.due("fields that 2 sees", orders.seat(2, 2), 0b110010001001);
        orders.army(1, 8);
        Check.due("all seats see 0", orders.field(0, 3), 0b111);
    }

    /** "3: the field of its army on the lowest field, NONE without armies" */
    private static void seatOfNoArmies() {
        FogOrders orders = Setup.armies(1, 0);
        int[] due = {0, 0, 0, -1, 0};
        for (int what = 0; what <= 4; what++) {
            Check.due("seat(0, " + what + ")", orders.seat(0, what), due[what]);
            Check.due("seat(2, " + what + ")", orders.seat(2, what), due[what]);
        }
        Check.due("0 is a field, not NONE", orders.seat(1, 3), 0);
    }

    private static void lowestField() {
        FogOrders orders = Setup.armies(1, 11, 0, 0, 1, 4, 1, 7);
        Check.due("of three", orders.seat(1, 3), 4);
        orders.drop(2);
        Check.due("of two", orders.seat(1, 3), 7);
        orders.drop(2);
        Check.due("of one", orders.seat(1, 3), 11);
        orders.drop(0);
        Check.due("of none", orders.seat(1, 3), -1);
    }

    /** "4: armies of other seats that it sees, how many": none, and all eight of them. */
    private static void othersThatASeatSees() {
        FogOrders none = Setup.armies(0, 0, 0, 1, 1, 6, 2, 7);
        Check.due("none", none.seat(0, 4), 0);
        Check.due("each other", none.seat(1, 4), 1);
        FogOrders all = Setup.armies(0, 0, 0, 2, 1, 1, 1, 3, 1, 4, 2, 6, 2, 8, 2, 10, 2, 11);
        Check.due("all seven", all.seat(0, 4), 7);
        Check.due("each army once", all.seat(1, 4), 4);
    }

    /** "so far": all is 0 in a new object, and the NONE of nothing is none of them. */
    private static void countsAtFirst() {
        FogOrders orders = new FogOrders();
        for (int what = 0; what <= 12; what++) {
            Check.due("count(" + what + ")", orders.count(what), 0);
        }
    }

    /** "10: orders to move now; 11: orders to support now": none and nine. */
    private static void ordersNow() {
        FogOrders orders = given("0m1;1m0;2m3;3m2;4m5;5m4;6m7;7m6;8m9",
                0, 0, 1, 1, 2, 2, 0, 3, 1, 4, 2, 5, 0, 6, 1, 7, 2, 8);
        Check.due("nine moves", orders.count(10), 9);
        Check.due("no support", orders.count(11), 0);
        for (int army = 0; army < 9; army++) {
            int near = army == 0 ? 1 : army - 1;
            orders.support(army, near, near);
            Check.due("moves", orders.count(10), 8 - army);
            Check.due("supports", orders.count(11), army + 1);
        }
    }

    /** "6: armies that were driven off so far; 7: armies that were disbanded so far": who retreats is not disbanded. */
    private static void drivenOffAndDisbanded() {
        FogOrders retreats = given("1m1;2s0-1", 1, 1, 0, 0, 0, 2);
        retreats.open();
        Check.due("driven off, and retreats", retreats.count(6), 1);
        Check.due("disbanded", retreats.count(7), 0);
        FogOrders disbanded = given("1m1;2s0-1", 1, 1, 0, 0, 0, 2, 0, 5, 0, 9);
        disbanded.open();
        Check.due("driven off, and disbanded", disbanded.count(6), 1);
        Check.due("disbanded", disbanded.count(7), 1);
        Check.due("not taken off", disbanded.count(9), 0);
        disbanded.open();
        Check.due("taken off, of four", disbanded.count(9), 2);
        Check.due("not disbanded", disbanded.count(7), 1);
    }

    /** "0: the field on which it would stand, NONE if it would be disbanded" */
    private static void standsNowhere() {
        FogOrders orders = given("1m1;2s0-1", 1, 1, 0, 0, 0, 2, 0, 5, 0, 9);
        Setup.ifOpened("field", orders, 0, -1, 1, 2, 5, 9);
        orders.drop(4);
        Setup.ifOpened("field", orders, 0, 9, 1, 2, 5);
    }

    /** "(before the year ends)": who would be taken off stands still, and who would be built is not there. */
    private static void beforeTheYearEnds() {
        FogOrders orders = Setup.armies(0, 1, 0, 2, 1, 0);
        orders.open();
        orders.move(1, 3);
        Setup.ifOpened("field", orders, 0, 1, 3, 0);
        Check.due("ifYear(0)", orders.ifYear(0), 1);
        orders.move(1, 6);
        Setup.ifOpened("field", orders, 0, 1, 6, 0);
        orders.move(1, 10);
        Setup.ifOpened("field", orders, 0, 1, 10, 0);
        orders.open();
        Setup.armyOf("field behind it", orders, 1, 1, 0);
    }

    /** "1 to 4, 0 if it would not fail, or it has no order to move" */
    private static void reasonOfNoMove() {
        FogOrders orders = given("0m1;1s0-1;2h", 0, 0, 0, 2, 1, 6);
        Setup.ifOpened("reason", orders, 2, 0, 0, 0);
        orders.army(1, 1);
        orders.hold(1);
        Setup.ifOpened("reason", orders, 2, 4, 0, 0, 0);
    }

    /** "4: 1 if it has the order to support, and this would count, otherwise 0; 5: ... and would be cut" */
    private static void supportThatCounts() {
        FogOrders orders = given("0m1;1s0-1;2m2", 0, 0, 0, 2, 1, 6);
        Setup.ifOpened("counts", orders, 4, 0, 0, 0);
        Setup.ifOpened("cut", orders, 5, 0, 1, 0);
        orders.hold(1);
        Setup.ifOpened("who holds is not cut", orders, 5, 0, 0, 0);
        orders.move(1, 3);
        Setup.ifOpened("who moves is not cut", orders, 5, 0, 0, 0);
    }

    /** "to which fields an army could move now with success": all four, and none. */
    private static void reachesNothingOrAll() {
        FogOrders orders = Setup.armies(0, 11);
        Check.due("all", orders.canReach(0), Setup.mask(0, 3, 7, 10));
        for (int field : new int[] {0, 3, 7, 10}) {
            orders.army(1, field);
        }
        Check.due("none", orders.canReach(0), 0);
    }

    /** "all other orders as they are" */
    private static void reachesInOthersOrders() {
        FogOrders orders = given("1m0;2s0-11", 0, 0, 1, 11, 0, 3);
        Check.due("an exchange that it wins", orders.canReach(0), Setup.mask(1, 4, 8, 11));
        orders.hold(2);
        Check.due("an exchange that it does not", orders.canReach(0), Setup.mask(1, 4, 8));
        orders.move(1, 10);
        Check.due("a field that is left", orders.canReach(0), Setup.mask(1, 4, 8, 11));
        orders.move(2, 4);
        Check.due("a field that another wants", orders.canReach(0), Setup.mask(1, 8, 11));
        Check.due("its order is as before", orders.armyOf(0, 2), 0);
    }

    /** "NONE if none would be." */
    private static void noDanger() {
        Check.due("without armies", new FogOrders().danger(), FogOrders.NONE);
        FogOrders orders = given("1m1", 1, 1, 0, 0, 0, 2);
        Check.due("a move that fails", orders.danger(), -1);
        orders.support(2, 0, 1);
        Check.due("one that goes", orders.danger(), 0);
        orders.move(0, 5);
        Check.due("one that goes behind it", orders.danger(), -1);
    }

    /** "the one against which the strength is the greatest; of several the lowest" */
    private static void greatestDanger() {
        String even = "2m0;4s1-0;3m3;5s2-3";
        FogOrders orders = given(even, 1, 0, 1, 3, 0, 1, 0, 2, 0, 8, 0, 7, 2, 11);
        Check.due("2 and 2", orders.danger(), 0);
        orders.support(6, 2, 3);
        Check.due("2 and 3", orders.danger(), 1);
        orders.support(6, 1, 0);
        Check.due("3 and 2", orders.danger(), 0);
        FogOrders turned = given(even, 1, 3, 1, 0, 0, 1, 0, 2, 0, 8, 0, 7, 2, 11);
        Check.due("2 and 2, turned", turned.danger(), 0);
        turned.support(6, 1, 0);
        Check.due("2 and 3, turned", turned.danger(), 1);
    }

    /** "1.0 without any." */
    private static void successWithoutMoves() {
        FogOrders orders = Setup.armies(0, 0, 1, 11);
        Check.dueShare("new", orders.success(), 1.0);
        orders.support(0, 11, 11);
        orders.open();
        Check.dueShare("behind an opening without moves", orders.success(), 1.0);
        orders.move(0, 11);
        Check.dueShare("with a move not opened", orders.success(), 1.0);
        orders.open();
        Check.dueShare("with one that failed", orders.success(), 0.0);
        orders.undo();
        Check.dueShare("undone", orders.success(), 1.0);
    }

    private static void successOfNoneAndAll() {
        FogOrders orders = given("0m1;1m0", 0, 0, 1, 1);
        orders.open();
        Check.dueShare("0 of 2", orders.success(), 0.0);
        Check.due("its bits", Double.doubleToLongBits(orders.success()), 0L);
        FogOrders all = given("0m1;1m2", 0, 0, 1, 1);
        all.open();
        Check.dueShare("2 of 2", all.success(), 1.0);
    }

    /** "as a double, divided by all moves so far" */
    private static void successSharesAreNotRounded() {
        FogOrders orders = Setup.armies(0, 0, 1, 6, 1, 7);
        int good = 0;
        for (int moves = 1; moves <= 60; moves++) {
            boolean goes = moves % 3 == 0 || moves % 7 == 0;
            if (goes) {
                orders.move(0, orders.armyOf(0, 1) == 0 ? 4 : 0);
                good++;
            } else {
                orders.move(1, 7);
            }
            orders.open();
            Check.dueShare(good + " of " + moves, orders.success(), (double) good / moves);
        }
    }

    /** "looks; nothing is changed", "what would be; nothing is changed" */
    private static void looksChangeNothing() {
        FogOrders orders = given("1m1;2s0-1;3m5;4m5;5m9", 1, 1, 0, 0, 0, 2, 2, 4, 2, 6, 2, 8);
        FogOrders twin = given("1m1;2s0-1;3m5;4m5;5m9", 1, 1, 0, 0, 0, 2, 2, 4, 2, 6, 2, 8);
        for (int army = 0; army < 6; army++) {
            orders.canReach(army);
            orders.armyOf(army, army);
            orders.ifOpened(army, army);
            orders.field(army, army % 5);
            orders.seat(army % 3, army % 5);
            orders.count(army);
            orders.ifYear(army % 3);
        }
        orders.danger();
        orders.success();
        orders.firstError();
        Check.due("digest", orders.digest(), twin.digest());
        Check.due("open()", orders.open(), twin.open());
        Check.due("digest behind it", orders.digest(), twin.digest());
    }

    /** "The hash starts at 3701": these numbers were reckoned by another program, without this class. */
    private static void digestsReckonedElsewhere() {
        FogOrders orders = new FogOrders();
        Check.due("new", orders.digest(), 2434220314851658263L);
        orders.append('!');
        Check.due("with one character", orders.digest(), 1673853465563199753L);
        orders.clearBuffer();
        Check.due("cleared", orders.digest(), 2434220314851658263L);
        for (int i = 0; i < 60; i++) {
            orders.append('~');
        }
        Check.due("with 60 characters", orders.digest(), 6276220599261715539L);
        Check.due("two armies", Setup.armies(0, 0, 1, 11).digest(), 532820660056207896L);
        FogOrders nine = Setup.armies(2, 8, 0, 7, 1, 6, 2, 5, 0, 4, 1, 3, 2, 2, 0, 1, 1, 0);
        Setup.type(nine, "0h");
        Check.due("nine armies", nine.digest(), -5928986733997116325L);
    }

    /** "in long arithmetic with overflow": reckoned without any bound first, of which the lowest 64 bits stay. */
    private static void digestOverflows() {
        FogOrders orders = given("1m1;2s0-1;3m5;4m5;5m9", 1, 1, 0, 0, 0, 2, 2, 4, 2, 6, 2, 8);
        for (int i = 0; i < 3; i++) {
            Check.due("digest " + i, orders.digest(), unbounded(orders, ""));
            orders.open();
            orders.move(0, orders.armyOf(0, 1) == 1 ? 5 : 1);
        }
    }

    private static void digestOfTheBuffer() {
        FogOrders orders = Setup.armies(0, 0);
        String text = "";
        for (int i = 0; i < 60; i++) {
            char next = (char) (33 + i * 93 / 59);
            text += next;
            orders.append(next);
            Check.due("digest with " + (i + 1), orders.digest(), unbounded(orders, text));
        }
    }

    private static void digestOfNineArmies() {
        FogOrders orders = given("0m1;1m0;2m3;3s2-3;4m2;5m4;6s7-7;8m9",
                0, 0, 1, 1, 2, 2, 0, 4, 1, 3, 2, 5, 0, 6, 1, 7, 2, 8);
        Check.due("digest", orders.digest(), unbounded(orders, ""));
        orders.open();
        Check.due("digest behind an opening", orders.digest(), unbounded(orders, ""));
    }

    private static final BigInteger FACTOR = BigInteger.valueOf(31);

    private static BigInteger mixed(BigInteger hash, long value) {
        return hash.multiply(FACTOR).add(BigInteger.valueOf(value));
    }

    private static long unbounded(FogOrders orders, String text) {
        BigInteger hash = BigInteger.valueOf(3701);
        for (int what = 0; what <= 12; what++) {
            hash = mixed(hash, orders.count(what));
        }
        for (int army = 0; army < orders.count(0); army++) {
            for (int what = 0; what <= 6; what++) {
                hash = mixed(hash, orders.armyOf(army, what));
            }
            for (int what = 0; what <= 5; what++) {
                hash = mixed(hash, orders.ifOpened(army, what));
            }
            hash = mixed(hash, orders.canReach(army));
        }
        for (int i = 0; i < 12 * 5; i++) {
            hash = mixed(hash, orders.field(i / 5, i % 5));
        }
        for (int seat = 0; seat < 3; seat++) {
            for (int what = 0; what <= 4; what++) {
                hash = mixed(hash, orders.seat(seat, what));
            }
            hash = mixed(hash, orders.ifYear(seat));
        }
        hash = mixed(hash, orders.danger());
        hash = mixed(hash, Double.doubleToLongBits(orders.success()));
        hash = mixed(hash, text.length());
        for (char code : text.toCharArray()) {
            hash = mixed(hash, code);
        }
        return hash.longValue();
    }
}
