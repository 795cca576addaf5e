/** "Opening", points 1 to 6, and promise 7: each sentence that names a boundary, by a test of its own. */
public final class OpeningEdgesTest {
    private static final int FIELD = 0;
    private static final int STRENGTH = 1;
    private static final int REASON = 2;
    private static final int DRIVEN = 3;
    private static final int COUNTS = 4;
    private static final int CUT = 5;

    public static void main(String[] args) {
        supportNeedsAnArmy();
        supportNeedsThatMove();
        supportInStayingNeedsNoMove();
        cutByAnotherSeatOnly();
        cutByWhicheverNumber();
        notCutByItsOwnSeat();
        notCutFromItsFieldTo();
        cutIfTheSupportedComes();
        cutOverTheSeam();
        strengthIsOneAtLeast();
        strengthOfAMoveAtMost();
        strengthInStayingAtMost();
        reasonOneAtTheSameStrength();
        reasonOneThoughTheRivalFailed();
        reasonTwoAtTheSameStrength();
        reasonTwoThoughTheOtherFailed();
        reasonTwoOnlyForAnExchange();
        reasonThreeAtAnyStrength();
        reasonThreeOnlyIfItStays();
        reasonFourAtTheSameStrength();
        reasonFourAgainstAMoveThatFailed();
        againAndAgain();
        circlesGo();
        firstReasonIsTold();
        drivenOff();
        goersAreNotDrivenOff();
        supporterDrivenOffCounts();
        greaterStrengthRetreatsFirst();
        lowestNumberRetreatsFirst();
        lowestNeighbour();
        retreatOverTheSeam();
        noRetreat();
        eachFieldOpensTheRetreat();
        bounceOfOneCloses();
        otherReasonsDoNotClose();
        retreatersCloseFields();
        allHoldThen();
        howManyFail();
        Check.end("OpeningEdgesTest");
    }

    private static FogOrders given(String text, int... seatsAndFields) {
        return Setup.give(Setup.armies(seatsAndFields), text);
    }

    /** "on its field from there is an army" */
    private static void supportNeedsAnArmy() {
        FogOrders nobody = given("0s2-1", 0, 0);
        Setup.ifOpened("nobody moves", nobody, COUNTS, 0);
        nobody.army(1, 2);
        nobody.move(1, 1);
        Setup.ifOpened("somebody moves", nobody, COUNTS, 1, 0);
        FogOrders noOne = given("0s1-1", 0, 0);
        Setup.ifOpened("nobody stays", noOne, COUNTS, 0);
        noOne.army(1, 1);
        Setup.ifOpened("somebody stays", noOne, COUNTS, 1, 0);
        Setup.ifOpened("the supporting one itself", given("0s0-1", 0, 0), COUNTS, 0);
    }

    /** "that has the order to move to its field to" */
    private static void supportNeedsThatMove() {
        FogOrders orders = given("0s2-1;1m1", 0, 0, 0, 2);
        Setup.ifOpened("to it", orders, COUNTS, 1, 0);
        orders.move(1, 3);
        Setup.ifOpened("elsewhere", orders, COUNTS, 0, 0);
        orders.hold(1);
        Setup.ifOpened("not at all", orders, COUNTS, 0, 0);
        orders.support(1, 1, 1);
        Setup.ifOpened("supports there", orders, COUNTS, 0, 0);
    }

    /** "with from the same as to, an army that has no order to move" */
    private static void supportInStayingNeedsNoMove() {
        FogOrders orders = given("0s1-1", 0, 0, 2, 1);
        Setup.ifOpened("holds", orders, COUNTS, 1, 0);
        orders.support(1, 2, 2);
        Setup.ifOpened("supports", orders, COUNTS, 1, 0);
        orders.move(1, 2);
        Setup.ifOpened("moves", orders, COUNTS, 0, 0);
        Setup.ifOpened("moves", orders, STRENGTH, 1, 1);
    }

    /** "it is cut, if some army of another seat has the order to move to the supporting army's field" */
    private static void cutByAnotherSeatOnly() {
        FogOrders orders = given("0s2-1;1m1;2m0", 0, 0, 0, 2, 1, 4);
        Setup.ifOpened("another seat", orders, CUT, 1, 0, 0);
        Setup.ifOpened("another seat", orders, COUNTS, 0, 0, 0);
        Setup.ifOpened("another seat", orders, STRENGTH, 1, 1, 1);
        orders.move(2, 5);
        Setup.ifOpened("another field", orders, CUT, 0, 0, 0);
        orders.support(2, 0, 0);
        Setup.ifOpened("no move", orders, CUT, 0, 0, 0);
        Setup.ifOpened("no move", orders, COUNTS, 1, 0, 1);
        FogOrders own = given("0s2-1;1m1;2m0", 0, 0, 0, 2, 0, 4);
        Setup.ifOpened("its own seat", own, CUT, 0, 0, 0);
        Setup.ifOpened("its own seat", own, STRENGTH, 1, 2, 1);
        FogOrders foreign = given("0s2-1;1m1;2m0", 0, 0, 1, 2, 1, 4);
        Setup.ifOpened("the supported one's seat", foreign, CUT, 1, 0, 0);
    }

    /** "some army": the first and the last of nine too. */
    private static void cutByWhicheverNumber() {
        Setup.ifOpened("by the first", given("0m0;1s2-1", 1, 4, 0, 0), CUT, 0, 1);
        FogOrders nine = Setup.armies(0, 0, 0, 1, 0, 2, 0, 3, 0, 5, 0, 6, 0, 7, 0, 8, 1, 4);
        Setup.give(nine, "0s2-1;8m0");
        Setup.ifOpened("by the last", nine, CUT, 1, 0, 0, 0, 0, 0, 0, 0, 0);
    }

    /** "of another seat": each seat against each, on every field. */
    private static void notCutByItsOwnSeat() {
        for (int field = 0; field < 12; field++) {
            for (int seats = 0; seats < 9; seats++) {
                FogOrders orders = Setup.armies(seats / 3, field);
                int near = Integer.numberOfTrailingZeros(orders.field(field, 4));
                int far = 31 - Integer.numberOfLeadingZeros(orders.field(field, 4));
                orders.army(seats % 3, far);
                orders.support(0, near, near);
                orders.move(1, field);
                int due = seats / 3 == seats % 3 ? 0 : 1;
                Setup.ifOpened("seats " + seats + " on " + field, orders, CUT, due, 0);
            }
        }
    }

    /** "from another field than its field to" */
    private static void notCutFromItsFieldTo() {
        FogOrders orders = given("0s2-1;1m1;2m0", 0, 0, 0, 2, 1, 1);
        Setup.ifOpened("from its field to", orders, CUT, 0, 0, 0);
        Setup.ifOpened("from its field to", orders, COUNTS, 1, 0, 0);
        orders.army(2, 8);
        orders.move(3, 0);
        Setup.ifOpened("and from another one", orders, CUT, 1, 0, 0, 0);
        FogOrders staying = given("0s1-1;1m0", 0, 0, 1, 1);
        Setup.ifOpened("in staying", staying, CUT, 0, 0);
        Setup.ifOpened("in staying", staying, COUNTS, 0, 0);
    }

    /** Its field from is another field than its field to; and it is cut "also if it would not count anyway". */
    private static void cutIfTheSupportedComes() {
        FogOrders orders = given("0s9-1;1m5", 0, 5, 1, 9);
        Setup.ifOpened("it moves here instead", orders, CUT, 1, 0);
        Setup.ifOpened("it moves here instead", orders, COUNTS, 0, 0);
        FogOrders useless = given("0s11-11;1m0", 0, 0, 1, 8);
        Setup.ifOpened("of nobody", useless, CUT, 1, 0);
    }

    private static void cutOverTheSeam() {
        FogOrders orders = given("0s2-1;1m1;2m0", 0, 0, 0, 2, 1, 11);
        Setup.ifOpened("from 11 to 0", orders, CUT, 1, 0, 0);
        FogOrders back = given("0s2-3;1m3;2m11", 0, 11, 0, 2, 1, 0);
        Setup.ifOpened("from 0 to 11", back, CUT, 1, 0, 0);
        FogOrders to = given("0s10-11;1m11;2m0", 0, 0, 0, 10, 1, 11);
        Setup.ifOpened("from its field to, 11", to, CUT, 0, 0, 0);
    }

    /** "The strength of a move is 1 and as many more as supports of this move count", with none. */
    private static void strengthIsOneAtLeast() {
        FogOrders orders = given("0m1;2s8-8;3s7-7", 0, 0, 1, 2, 2, 4, 0, 11);
        Setup.ifOpened("one", orders, STRENGTH, 1, 1, 1, 1);
    }

    /** The same with as many as there is room for: three neighbours of the goal besides the mover. */
    private static void strengthOfAMoveAtMost() {
        FogOrders orders = given("0m1;1s0-1;2s0-1;3s0-1", 0, 0, 0, 2, 1, 5, 2, 9);
        Setup.ifOpened("three", orders, STRENGTH, 4, 1, 1, 1);
        orders.support(3, 1, 1);
        Setup.ifOpened("two, and one in staying", orders, STRENGTH, 3, 1, 1, 1);
        orders.support(2, 2, 1);
        Setup.ifOpened("one, and one of another move", orders, STRENGTH, 2, 1, 1, 1);
    }

    /** "The strength of an army that has no order to move is 1 and as many more as supports in staying count." */
    private static void strengthInStayingAtMost() {
        FogOrders orders = given("1s1-1;2s1-1;3s1-1;4s1-1", 0, 1, 0, 0, 0, 2, 1, 5, 2, 9);
        Setup.ifOpened("four", orders, STRENGTH, 5, 1, 1, 1, 1);
        orders.support(0, 0, 0);
        Setup.ifOpened("a supporter too", orders, STRENGTH, 5, 2, 1, 1, 1);
        orders.support(4, 8, 8);
        Setup.ifOpened("three", orders, STRENGTH, 4, 2, 1, 1, 1);
    }

    /** "1: another army has the order to move to the same field, with at least the same strength" */
    private static void reasonOneAtTheSameStrength() {
        FogOrders orders = given("0m1;1m1", 0, 0, 1, 2, 0, 5, 1, 9);
        Setup.ifOpened("1 and 1", orders, REASON, 1, 1, 0, 0);
        orders.support(2, 0, 1);
        Setup.ifOpened("2 and 1", orders, REASON, 0, 1, 0, 0);
        orders.support(3, 2, 1);
        Setup.ifOpened("2 and 2", orders, REASON, 1, 1, 0, 0);
        orders.support(2, 2, 1);
        Setup.ifOpened("1 and 3", orders, REASON, 1, 0, 0, 0);
        FogOrders own = given("0m1;1m1;2m1", 0, 0, 0, 2, 0, 5);
        Setup.ifOpened("three of one seat", own, REASON, 1, 1, 1);
    }

    /** "(whether that move goes or has failed)": here the rival on 2 fails against the army on 1, for the reason 2. */
    private static void reasonOneThoughTheRivalFailed() {
        FogOrders orders = given("0m1;1m1;2m2;3s2-1;4s1-2", 0, 0, 1, 2, 2, 1, 1, 5, 2, 3);
        Setup.ifOpened("failed rival", orders, STRENGTH, 1, 2, 2, 1, 1);
        Setup.ifOpened("failed rival", orders, REASON, 1, 2, 2, 0, 0);
    }

    /** "2: the army on the field to which it moves has the order to move to the field from which it comes" */
    private static void reasonTwoAtTheSameStrength() {
        FogOrders orders = given("0m11;1m0", 0, 0, 1, 11, 0, 3, 1, 4);
        Setup.ifOpened("1 and 1", orders, REASON, 2, 2, 0, 0);
        orders.support(2, 0, 11);
        Setup.ifOpened("2 and 1", orders, REASON, 0, 2, 0, 0);
        orders.support(3, 11, 0);
        Setup.ifOpened("2 and 2", orders, REASON, 2, 2, 0, 0);
        orders.hold(2);
        Setup.ifOpened("1 and 2", orders, REASON, 2, 0, 0, 0);
    }

    /** "(likewise)": the army on 1 fails for the reason 1, and its move of the same strength stops the other still. */
    private static void reasonTwoThoughTheOtherFailed() {
        FogOrders orders = given("0m1;1m0;2m0", 0, 0, 0, 1, 1, 4);
        Setup.ifOpened("failed exchange", orders, REASON, 2, 1, 1);
        FogOrders strong = given("0m1;1m0;2m0;3s0-1;4s1-0;5s4-0", 0, 0, 1, 1, 2, 4, 0, 2, 1, 11, 2, 8);
        Setup.ifOpened("failed strong exchange", strong, STRENGTH, 2, 2, 2, 1, 1, 1);
        Setup.ifOpened("failed strong exchange", strong, REASON, 2, 1, 1, 0, 0, 0);
    }

    private static void reasonTwoOnlyForAnExchange() {
        FogOrders orders = given("0m1;1m2", 0, 0, 1, 1);
        Setup.ifOpened("it moves on", orders, REASON, 0, 0);
        orders.support(1, 4, 0);
        Setup.ifOpened("it supports a move back", orders, REASON, 4, 0);
    }

    /** "3: on that field there is an army that has no order to move ... of the same seat" */
    private static void reasonThreeAtAnyStrength() {
        FogOrders orders = given("0m1;2s0-1;3s0-1;4s0-1", 0, 0, 0, 1, 1, 2, 1, 5, 2, 9);
        Setup.ifOpened("4 against its own", orders, STRENGTH, 4, 1, 1, 1, 1);
        Setup.ifOpened("4 against its own", orders, REASON, 3, 0, 0, 0, 0);
        Setup.ifOpened("4 against its own", orders, DRIVEN, 0, 0, 0, 0, 0);
        orders.support(1, 2, 2);
        Setup.ifOpened("it supports", orders, REASON, 3, 0, 0, 0, 0);
    }

    /** "or whose move has failed": not if it goes. */
    private static void reasonThreeOnlyIfItStays() {
        FogOrders orders = given("0m1;1m2", 0, 0, 0, 1, 1, 2, 0, 5);
        Setup.ifOpened("its own failed", orders, REASON, 3, 4, 0, 0);
        orders.move(2, 3);
        Setup.ifOpened("its own goes", orders, REASON, 0, 0, 0, 0);
        FogOrders strong = given("0m1;1m2;3s0-1", 0, 0, 0, 1, 1, 2, 0, 5);
        Setup.ifOpened("its own failed, 2 against it", strong, REASON, 3, 4, 0, 0);
    }

    /** "4: ... an army of another seat, whose strength in staying ... is at least that of the move." */
    private static void reasonFourAtTheSameStrength() {
        FogOrders orders = given("0m1", 0, 0, 1, 1, 0, 2, 1, 5, 2, 9);
        Setup.ifOpened("1 against 1", orders, REASON, 4, 0, 0, 0, 0);
        orders.support(2, 0, 1);
        Setup.ifOpened("2 against 1", orders, REASON, 0, 0, 0, 0, 0);
        orders.support(3, 1, 1);
        Setup.ifOpened("2 against 2", orders, REASON, 4, 0, 0, 0, 0);
        orders.support(4, 0, 1);
        Setup.ifOpened("3 against 2", orders, REASON, 0, 0, 0, 0, 0);
        orders.support(4, 1, 1);
        Setup.ifOpened("2 against 3", orders, REASON, 4, 0, 0, 0, 0);
    }

    /** "(1, if its move has failed)": the supports of its move do not help it in staying, nor those in staying. */
    private static void reasonFourAgainstAMoveThatFailed() {
        FogOrders orders = given("0m1;1m2;3s1-2", 0, 0, 1, 1, 1, 2, 1, 3, 0, 5, 2, 9);
        Setup.ifOpened("1 against 1", orders, STRENGTH, 1, 2, 1, 1, 1, 1);
        Setup.ifOpened("1 against 1", orders, REASON, 4, 3, 0, 0, 0, 0);
        orders.support(4, 0, 1);
        orders.support(5, 1, 1);
        Setup.ifOpened("2 against 1", orders, REASON, 0, 3, 0, 0, 0, 0);
        Setup.ifOpened("2 against 1", orders, DRIVEN, 0, 1, 0, 0, 0, 0);
    }

    /** "again and again, until no more of them fails": eight in a row, of which the last is stopped. */
    private static void againAndAgain() {
        FogOrders orders = given("0m1;1m2;2m3;3m4;4m5;5m6;6m7;7m8",
                0, 0, 0, 1, 0, 2, 0, 3, 0, 4, 0, 5, 0, 6, 0, 7, 0, 8);
        Setup.ifOpened("in a row", orders, REASON, 3, 3, 3, 3, 3, 3, 3, 3, 0);
        Check.due("canReach(0)", orders.canReach(0), Setup.mask(11));
        orders.move(8, 9);
        Setup.ifOpened("nobody stops them", orders, REASON, 0, 0, 0, 0, 0, 0, 0, 0, 0);
        orders.hold(8);
        Check.due("open()", orders.open(), 8);
        Setup.armyOf("all stay", orders, 1, 0, 1, 2, 3, 4, 5, 6, 7, 8);
        FogOrders back = given("0h;1m8;2m7;3m6;4m5;5m4;6m3;7m2;8m1",
                0, 8, 1, 7, 0, 6, 1, 5, 0, 4, 1, 3, 0, 2, 1, 1, 0, 0);
        Setup.ifOpened("in a row back", back, REASON, 0, 4, 4, 4, 4, 4, 4, 4, 4);
    }

    /** "All moves go at first": in a circle, of three or of nine, no move fails. */
    private static void circlesGo() {
        FogOrders three = given("0m4;1m8;2m0", 0, 0, 1, 4, 2, 8);
        Check.due("open() of three", three.open(), 0);
        Setup.armyOf("three", three, 1, 4, 8, 0);
        FogOrders nine = given("0m1;1m2;2m3;3m4;4m5;5m6;6m7;7m8;8m0",
                0, 0, 1, 1, 2, 2, 0, 3, 1, 4, 2, 5, 0, 6, 1, 7, 2, 8);
        Check.due("open() of nine", nine.open(), 0);
        Setup.armyOf("nine", nine, 1, 1, 2, 3, 4, 5, 6, 7, 8, 0);
        Setup.armyOf("nine", nine, 5, 1, 1, 1, 1, 1, 1, 1, 1, 1);
    }

    /** "(The first reason that applies at the end is told for a move that failed.)" */
    private static void firstReasonIsTold() {
        Setup.ifOpened("1 and 2", given("0m1;1m0;2m1", 0, 0, 1, 1, 2, 2), REASON, 1, 2, 1);
        Setup.ifOpened("1 and 3", given("0m1;2m1", 0, 0, 0, 1, 1, 2), REASON, 1, 0, 1);
        Setup.ifOpened("1 and 4", given("0m1;2m1", 0, 0, 1, 1, 2, 2), REASON, 1, 0, 1);
        Setup.ifOpened("2 and 3", given("0m1;1m0", 0, 0, 0, 1), REASON, 2, 2);
        Setup.ifOpened("2 and 4", given("0m1;1m0", 0, 0, 1, 1), REASON, 2, 2);
        Setup.ifOpened("1, 2 and 3", given("0m1;1m0;2m1", 0, 0, 0, 1, 1, 2), REASON, 1, 2, 1);
    }

    /** "An army that stood on such a field, and whose own move does not go, is driven off." */
    private static void drivenOff() {
        FogOrders orders = given("0m1;2s0-1", 0, 0, 1, 1, 0, 5);
        Setup.ifOpened("holds", orders, DRIVEN, 0, 1, 0);
        Setup.ifOpened("by the army 0", orders, FIELD, 1, 2, 5);
        Check.due("danger() by the army 0", orders.danger(), 1);
        orders.support(1, 5, 5);
        Setup.ifOpened("supports", orders, DRIVEN, 0, 1, 0);
        orders.move(1, 5);
        Setup.ifOpened("its move fails", orders, REASON, 0, 4, 0);
        Setup.ifOpened("its move fails", orders, DRIVEN, 0, 1, 0);
        orders.hold(2);
        Setup.ifOpened("none comes", orders, DRIVEN, 0, 0, 0);
    }

    private static void goersAreNotDrivenOff() {
        FogOrders orders = given("0m1;1m2;2s0-1", 0, 0, 1, 1, 0, 5);
        Setup.ifOpened("it goes", orders, DRIVEN, 0, 0, 0);
        Check.due("danger()", orders.danger(), -1);
        orders.open();
        Check.due("driven off", orders.count(6), 0);
    }

    /** The army on 0 is driven off from its field to, by which its support is not cut. */
    private static void supporterDrivenOffCounts() {
        FogOrders orders = given("0s5-1;1m1;2m0;3s1-0", 0, 0, 0, 5, 1, 1, 1, 4);
        Setup.ifOpened("driven supporter", orders, COUNTS, 1, 0, 0, 1);
        Setup.ifOpened("driven supporter", orders, STRENGTH, 1, 2, 2, 1);
        Setup.ifOpened("driven supporter", orders, DRIVEN, 1, 0, 0, 0);
        Setup.ifOpened("driven supporter", orders, FIELD, 8, 1, 0, 4);
    }

    private static final String TWO_DRIVEN = "2m0;4s1-0;3m3;5s2-3";

    /** "those first that were driven off by the greater strength": both want 4, the lowest that is free. */
    private static void greaterStrengthRetreatsFirst() {
        FogOrders orders = given(TWO_DRIVEN + ";6s2-3", 1, 0, 1, 3, 0, 1, 0, 2, 0, 8, 0, 7, 2, 11);
        Setup.ifOpened("3 against the one on 3", orders, FIELD, -1, 4, 0, 3, 8, 7, 11);
        orders.support(6, 10, 10);
        Setup.ifOpened("2 against both", orders, FIELD, 4, -1, 0, 3, 8, 7, 11);
        FogOrders turned = given("2m0;4s1-0;3m3;5s2-3;6s1-0", 1, 3, 1, 0, 0, 1, 0, 2, 0, 8, 0, 7, 2, 11);
        Setup.ifOpened("3 against the one on 0", turned, FIELD, -1, 4, 0, 3, 8, 7, 11);
    }

    /** "of several the one with the lowest number" */
    private static void lowestNumberRetreatsFirst() {
        FogOrders orders = given(TWO_DRIVEN, 1, 0, 1, 3, 0, 1, 0, 2, 0, 8, 0, 7);
        Setup.ifOpened("the one on 0 is the lower", orders, FIELD, 4, 11, 0, 3, 8, 7);
        FogOrders turned = given(TWO_DRIVEN, 1, 3, 1, 0, 0, 1, 0, 2, 0, 8, 0, 7);
        Setup.ifOpened("the one on 3 is the lower", turned, FIELD, 4, 11, 0, 3, 8, 7);
    }

    /** "the lowest neighbour of its field on which no army stands, from which the one who drove it off did not come" */
    private static void lowestNeighbour() {
        Setup.ifOpened("0 of 0, 2, 5", given("1m1;2s9-1", 1, 1, 0, 9, 0, 5), FIELD, 0, 1, 5);
        Setup.ifOpened("the driver was on 0", given("1m1;2s0-1", 1, 1, 0, 0, 0, 5), FIELD, 2, 1, 5);
        Setup.ifOpened("one stands on 0", given("1m1;2s9-1", 1, 1, 0, 9, 0, 5, 2, 0), FIELD, 2, 1, 5, 0);
        Setup.ifOpened("one comes to 0", given("1m1;2s9-1;3m0", 1, 1, 0, 9, 0, 5, 2, 4), FIELD, 2, 1, 5, 0);
        Setup.ifOpened("one leaves 0", given("1m1;2s9-1;3m4", 1, 1, 0, 9, 0, 5, 2, 0), FIELD, 0, 1, 5, 4);
        Setup.ifOpened("a supporter was on 0", given("1m1;2s9-1", 1, 1, 0, 9, 0, 0), FIELD, 2, 1, 0);
    }

    private static void retreatOverTheSeam() {
        FogOrders orders = given("1m0;2s1-0", 1, 0, 0, 1, 0, 4, 2, 8);
        Setup.ifOpened("from 0 to 11", orders, FIELD, 11, 0, 4, 8);
        FogOrders back = given("1m11;2s3-11", 1, 11, 0, 3, 0, 7);
        Setup.ifOpened("from 11 to 0", back, FIELD, 0, 11, 7);
        FogOrders came = given("1m11;2s0-11", 1, 11, 0, 0, 0, 7);
        Setup.ifOpened("its driver came from 0", came, FIELD, 3, 11, 7);
        FogOrders cameFromEleven = given("1m0;2s11-0", 1, 0, 0, 11, 0, 4, 2, 8, 2, 1);
        Setup.ifOpened("its driver came from 11", cameFromEleven, FIELD, -1, 0, 4, 8, 1);
    }

    /** Around the army on 1: from 0 comes the driver, on 2 one stands, on 5 two bounce, to 9 one comes. */
    private static FogOrders closedIn() {
        return given("1m1;2s0-1;3m5;4m5;5m9", 1, 1, 0, 0, 0, 2, 2, 4, 2, 6, 2, 8);
    }

    /** "if there is none, it is disbanded." */
    private static void noRetreat() {
        FogOrders orders = closedIn();
        Setup.ifOpened("no retreat", orders, FIELD, -1, 1, 2, 4, 6, 9);
        Setup.ifOpened("no retreat", orders, DRIVEN, 1, 0, 0, 0, 0, 0);
        Check.due("open()", orders.open(), 2);
        Setup.armyOf("no retreat", orders, 1, 1, 2, 4, 6, 9);
        Check.due("driven off", orders.count(6), 1);
        Check.due("disbanded", orders.count(7), 1);
    }

    /** Each of the fields alone would have been enough, but the one from which the driver came. */
    private static void eachFieldOpensTheRetreat() {
        FogOrders nine = closedIn();
        nine.hold(5);
        Setup.ifOpened("9 is free", nine, FIELD, 9, 1, 2, 4, 6, 8);
        FogOrders five = closedIn();
        five.hold(3);
        five.hold(4);
        Setup.ifOpened("nobody wants 5", five, FIELD, 5, 1, 2, 4, 6, 9);
        FogOrders one = closedIn();
        one.hold(4);
        Setup.ifOpened("one comes to 5", one, FIELD, -1, 1, 2, 5, 6, 9);
        FogOrders two = given("1m1;2s0-1;3m9;4m9", 1, 1, 0, 0, 0, 5, 2, 8, 2, 10);
        Setup.ifOpened("2 is free", two, FIELD, 2, 1, 5, 8, 10);
        five.open();
        Check.due("driven off", five.count(6), 1);
        Check.due("none is disbanded", five.count(7), 0);
    }

    /**
     * "to which no move failed for the reason 1": 0 is left, and the stronger one who wanted to go there failed
     * for the reason 2; the weaker one, with the number 0, failed for the reason 1.
     */
    private static void bounceOfOneCloses() {
        FogOrders orders = given("0m0;1m0;2s1-0;3m1;4s0-1;5s0-1;7m4;8s3-4",
                2, 8, 1, 1, 1, 11, 0, 0, 0, 2, 0, 9, 1, 4, 0, 3, 0, 5);
        Setup.ifOpened("closed by one", orders, REASON, 1, 2, 0, 0, 0, 0, 0, 0, 0);
        Setup.ifOpened("closed by one", orders, FIELD, 8, -1, 11, 1, 2, 9, -1, 4, 5);
        orders.hold(0);
        Setup.ifOpened("closed by none", orders, FIELD, 8, -1, 11, 1, 2, 9, 0, 4, 5);
    }

    /** "to which no move failed for the reason 1": the one on 4 fails to come to 5 for the reason 2, and 5 is left. */
    private static void otherReasonsDoNotClose() {
        FogOrders orders = given("1m1;2s0-1;3m4;4m5;5s5-4", 1, 1, 0, 0, 0, 2, 0, 5, 2, 4, 0, 3);
        Setup.ifOpened("reason 2 on 5", orders, REASON, 0, 0, 0, 0, 2, 0);
        Setup.ifOpened("reason 2 on 5", orders, FIELD, 5, 1, 2, 4, 0, 3);
    }

    /** "one after the other": where the first retreated to, an army stands for the second. */
    private static void retreatersCloseFields() {
        FogOrders orders = given(TWO_DRIVEN, 1, 0, 1, 3, 0, 1, 0, 2, 0, 8, 0, 7, 2, 11);
        Setup.ifOpened("no field is left", orders, FIELD, 4, -1, 0, 3, 8, 7, 11);
        orders.open();
        Setup.armyOf("no field is left", orders, 1, 4, 0, 3, 8, 7, 11);
        FogOrders none = given(TWO_DRIVEN, 1, 0, 1, 3, 0, 1, 0, 2, 0, 8, 0, 7, 2, 11, 2, 4);
        Setup.ifOpened("none for both", none, FIELD, -1, -1, 0, 3, 8, 7, 11, 4);
        Check.due("danger() of both", none.danger(), 0);
        none.open();
        Check.due("both are disbanded", none.count(7), 2);
    }

    /** "All orders are to hold then, and the next season begins." */
    private static void allHoldThen() {
        FogOrders orders = closedIn();
        orders.hold(5);
        Check.due("season", orders.count(2), 0);
        orders.open();
        Setup.armyOf("kinds", orders, 2, 0, 0, 0, 0, 0, 0);
        Setup.armyOf("fields to", orders, 3, -1, -1, -1, -1, -1, -1);
        Setup.armyOf("fields from", orders, 4, -1, -1, -1, -1, -1, -1);
        Check.due("moves now", orders.count(10), 0);
        Check.due("supports now", orders.count(11), 0);
        Check.due("season", orders.count(2), 1);
        Check.due("open() again", orders.open(), 0);
    }

    /** "Returns how many moves fail": none, all of nine, and those alone that are moves. */
    private static void howManyFail() {
        Check.due("open() without armies", new FogOrders().open(), 0);
        Check.due("open() of holders", Setup.armies(0, 0, 1, 1).open(), 0);
        FogOrders nine = given("0m1;1m0;2m3;3m2;4m5;5m4;6m7;7m6;8m7",
                0, 0, 1, 1, 2, 2, 0, 3, 1, 4, 2, 5, 0, 6, 1, 7, 2, 8);
        Check.due("open() of nine", nine.open(), 9);
        Setup.armyOf("nine", nine, 6, 1, 1, 1, 1, 1, 1, 1, 1, 1);
        Check.due("failed", nine.count(5), 9);
        Check.due("succeeded", nine.count(4), 0);
        Check.due("open() of a cut support", given("0s2-1;1m1;2m0", 0, 0, 0, 2, 1, 4).open(), 1);
    }
}
