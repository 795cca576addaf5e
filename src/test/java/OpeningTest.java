/** Promise 7, open, with promise 19, ifOpened, that tells the same before: supports, strengths, failing, retreats. */
public final class OpeningTest {
    private static final int FIELD = 0;
    private static final int STRENGTH = 1;
    private static final int REASON = 2;
    private static final int DRIVEN = 3;
    private static final int COUNTS = 4;
    private static final int CUT = 5;

    public static void main(String[] args) {
        openNothing();
        freeMove();
        bounce();
        supportedMove();
        rivalThatFails();
        swaps();
        circle();
        chains();
        holders();
        moverThatFailsStaysWithOne();
        firstReasonIsTold();
        supportsThatCount();
        supportsThatDoNot();
        cuts();
        notCut();
        lowestRetreats();
        retreatsInTurn();
        strongerFirst();
        noRetreatToABounce();
        noRetreatBehindAStrongerRival();
        nothingIsLeftOfDropped();
        retreatToAFieldLeft();
        disbanded();
        twoDisbanded();
        countedSoFar();
        Check.end("OpeningTest");
    }

    private static FogOrders given(String text, int... seatsAndFields) {
        return Setup.give(Setup.armies(seatsAndFields), text);
    }

    /** Opens, and checks that all armies stand where ifOpened said; none is disbanded here. */
    private static void opened(String name, FogOrders orders, int fails, int... fields) {
        Setup.ifOpened(name, orders, FIELD, fields);
        Check.due(name + " open()", orders.open(), fails);
        Setup.armyOf(name, orders, 1, fields);
        for (int army = 0; army < fields.length; army++) {
            Check.due(name + " kind", orders.armyOf(army, 2), 0);
            Check.due(name + " to", orders.armyOf(army, 3), -1);
            Check.due(name + " from", orders.armyOf(army, 4), -1);
        }
    }

    private static void openNothing() {
        FogOrders orders = new FogOrders();
        Check.due("open() without armies", orders.open(), 0);
        Check.due("openings", orders.count(3), 1);
        Check.due("season", orders.count(2), 1);
        Check.due("saved", orders.count(12), 1);
        Check.due("undo of it", orders.undo(), 0);
        Check.due("openings", orders.count(3), 0);
    }

    private static void freeMove() {
        FogOrders orders = given("0m1", 0, 0, 1, 6);
        Setup.ifOpened("free", orders, STRENGTH, 1, 1);
        Setup.ifOpened("free", orders, REASON, 0, 0);
        Setup.ifOpened("free", orders, DRIVEN, 0, 0);
        opened("free", orders, 0, 1, 6);
        Setup.armyOf("free", orders, 5, 1, 0);
        Setup.armyOf("free", orders, 6, 0, 0);
    }

    private static void bounce() {
        FogOrders orders = given("0m1;1m1", 0, 0, 0, 2);
        Setup.ifOpened("bounce", orders, REASON, 1, 1);
        opened("bounce", orders, 2, 0, 2);
        Setup.armyOf("bounce", orders, 5, 0, 0);
        Setup.armyOf("bounce", orders, 6, 1, 1);
    }

    private static void supportedMove() {
        FogOrders orders = given("0m1;1m1;2s0-1", 0, 0, 1, 2, 0, 5);
        Setup.ifOpened("supported", orders, STRENGTH, 2, 1, 1);
        Setup.ifOpened("supported", orders, REASON, 0, 1, 0);
        Setup.ifOpened("supported", orders, COUNTS, 0, 0, 1);
        opened("supported", orders, 1, 1, 2, 5);
    }

    private static void rivalThatFails() {
        FogOrders orders = given("0m1;1m1;2m2;3s2-1;4s1-2", 0, 0, 1, 2, 2, 1, 1, 5, 2, 3);
        Setup.ifOpened("failing rival", orders, STRENGTH, 1, 2, 2, 1, 1);
        Setup.ifOpened("failing rival", orders, REASON, 1, 2, 2, 0, 0);
        opened("failing rival", orders, 3, 0, 2, 1, 5, 3);
    }

    private static void swaps() {
        FogOrders foreign = given("0m1;1m0", 0, 0, 1, 1);
        Setup.ifOpened("swap", foreign, REASON, 2, 2);
        opened("swap", foreign, 2, 0, 1);
        FogOrders own = given("0m1;1m0", 2, 0, 2, 1);
        Setup.ifOpened("own swap", own, REASON, 2, 2);
        opened("own swap", own, 2, 0, 1);
        FogOrders won = given("0m1;1m0;2s0-1", 0, 0, 1, 1, 0, 5);
        Setup.ifOpened("won swap", won, REASON, 0, 2, 0);
        Setup.ifOpened("won swap", won, DRIVEN, 0, 1, 0);
        opened("won swap", won, 1, 1, 2, 5);
        FogOrders wonOverOwn = given("0m1;1m0;2s0-1", 0, 0, 0, 1, 0, 5);
        Setup.ifOpened("won own swap", wonOverOwn, REASON, 3, 2, 0);
        opened("won own swap", wonOverOwn, 2, 0, 1, 5);
    }

    private static void circle() {
        FogOrders orders = given("0m1;1m5;2m4;3m0", 0, 0, 1, 1, 2, 5, 0, 4);
        Setup.ifOpened("circle", orders, REASON, 0, 0, 0, 0);
        opened("circle", orders, 0, 1, 5, 4, 0);
        FogOrders round = given("0m11;1m3;2m4;3m0", 0, 0, 0, 11, 0, 3, 0, 4);
        opened("circle over the seam", round, 0, 11, 3, 4, 0);
    }

    private static void chains() {
        opened("chain", given("0m1;1m2;2m3", 0, 0, 1, 1, 2, 2), 0, 1, 2, 3);
        opened("chain back", given("0m3;1m2;2m1", 0, 2, 1, 1, 2, 0), 0, 3, 2, 1);
        FogOrders stopped = given("0m1;1m2;2m3;3m3", 0, 0, 0, 1, 1, 2, 1, 4);
        Setup.ifOpened("stopped chain", stopped, REASON, 3, 4, 1, 1);
        opened("stopped chain", stopped, 4, 0, 1, 2, 4);
        FogOrders stoppedBack = given("0m3;1m3;2m2;3m1", 1, 4, 1, 2, 0, 1, 0, 0);
        Setup.ifOpened("stopped chain back", stoppedBack, REASON, 1, 1, 4, 3);
        opened("stopped chain back", stoppedBack, 4, 4, 2, 1, 0);
    }

    private static void holders() {
        Setup.ifOpened("own holder", given("0m1", 0, 0, 0, 1), REASON, 3, 0);
        Setup.ifOpened("own holder, supported move", given("0m1;2s0-1;3s0-1", 0, 0, 0, 1, 0, 5, 1, 9),
                REASON, 3, 0, 0, 0);
        Setup.ifOpened("holder", given("0m1", 0, 0, 1, 1), REASON, 4, 0);
        Setup.ifOpened("supporter", given("0m1;1s2-2", 0, 0, 1, 1, 1, 2), REASON, 4, 0, 0);
        FogOrders driven = given("0m1;2s0-1", 0, 0, 1, 1, 0, 5);
        Setup.ifOpened("driven", driven, REASON, 0, 0, 0);
        Setup.ifOpened("driven", driven, DRIVEN, 0, 1, 0);
        opened("driven", driven, 0, 1, 2, 5);
        FogOrders helped = given("0m1;2s0-1;3s1-1", 0, 0, 1, 1, 0, 5, 2, 9);
        Setup.ifOpened("helped", helped, STRENGTH, 2, 2, 1, 1);
        Setup.ifOpened("helped", helped, REASON, 4, 0, 0, 0);
        opened("helped", helped, 1, 0, 1, 5, 9);
        FogOrders three = given("0m1;2s0-1;3s1-1;4s0-1", 0, 0, 1, 1, 0, 5, 2, 9, 1, 2);
        Setup.ifOpened("three against two", three, STRENGTH, 3, 2, 1, 1, 1);
        Setup.ifOpened("three against two", three, DRIVEN, 0, 1, 0, 0, 0);
        Setup.ifOpened("three against two", three, FIELD, 1, -1, 5, 9, 2);
    }

    private static void moverThatFailsStaysWithOne() {
        FogOrders orders = given("0m1;1s0-1;2m2;3s1-2", 0, 0, 0, 5, 1, 1, 1, 3, 1, 2);
        Setup.ifOpened("failed mover", orders, STRENGTH, 2, 1, 2, 1, 1);
        Setup.ifOpened("failed mover", orders, REASON, 0, 0, 3, 0, 0);
        Setup.ifOpened("failed mover", orders, DRIVEN, 0, 0, 1, 0, 0);
        opened("failed mover", orders, 1, 1, 5, 9, 3, 2);
        FogOrders staying = given("0m1;1s0-1;2m2;3s1-1", 0, 0, 0, 5, 1, 1, 1, 9, 1, 2);
        Setup.ifOpened("supported in staying, but moves", staying, STRENGTH, 2, 1, 1, 1, 1);
        Setup.ifOpened("supported in staying, but moves", staying, COUNTS, 0, 1, 0, 0, 0);
        Setup.ifOpened("supported in staying, but moves", staying, DRIVEN, 0, 0, 1, 0, 0);
    }

    private static void firstReasonIsTold() {
        Setup.ifOpened("1 before 2", given("0m1;1m0;2m1", 0, 0, 1, 1, 2, 2), REASON, 1, 2, 1);
        Setup.ifOpened("1 before 3", given("0m1;2m1", 0, 0, 0, 1, 1, 2), REASON, 1, 0, 1);
        Setup.ifOpened("1 before 4", given("0m1;2m1", 0, 0, 1, 1, 2, 2), REASON, 1, 0, 1);
        Setup.ifOpened("2 before 3", given("0m1;1m0", 0, 0, 0, 1), REASON, 2, 2);
        Setup.ifOpened("2 before 4", given("0m1;1m0", 0, 0, 1, 1), REASON, 2, 2);
    }

    private static void supportsThatCount() {
        FogOrders foreign = given("0m1;2s0-1", 0, 0, 1, 1, 2, 5);
        Setup.ifOpened("of another seat", foreign, COUNTS, 0, 0, 1);
        Setup.ifOpened("of another seat", foreign, DRIVEN, 0, 1, 0);
        FogOrders supporter = given("0s1-1;1s0-0", 0, 0, 0, 1);
        Setup.ifOpened("of each other in staying", supporter, COUNTS, 1, 1);
        Setup.ifOpened("of each other in staying", supporter, STRENGTH, 2, 2);
        FogOrders many = given("0m1;1s0-1;2s0-1;3s0-1", 0, 0, 0, 2, 1, 5, 2, 9);
        Setup.ifOpened("three of one move", many, STRENGTH, 4, 1, 1, 1);
    }

    private static void supportsThatDoNot() {
        FogOrders elsewhere = given("0m4;1s0-1", 0, 0, 0, 2);
        Setup.ifOpened("of a move elsewhere", elsewhere, COUNTS, 0, 0);
        Setup.ifOpened("of a move elsewhere", elsewhere, STRENGTH, 1, 1);
        Setup.ifOpened("of a holder's move", given("1s0-1", 0, 0, 0, 2), COUNTS, 0, 0);
        Setup.ifOpened("of a mover's staying", given("0m4;1s0-0", 0, 0, 0, 1), COUNTS, 0, 0);
        Setup.ifOpened("of nobody's move", given("0s2-1", 0, 0), COUNTS, 0);
        Setup.ifOpened("of nobody's staying", given("0s1-1", 0, 0), COUNTS, 0);
        FogOrders itself = given("0s0-1", 0, 0);
        Setup.ifOpened("of itself", itself, COUNTS, 0);
        Setup.ifOpened("of itself", itself, STRENGTH, 1);
    }

    private static void cuts() {
        FogOrders cut = given("0m1;2s0-1;3m5", 0, 0, 1, 1, 0, 5, 1, 6);
        Setup.ifOpened("cut", cut, CUT, 0, 0, 1, 0);
        Setup.ifOpened("cut", cut, COUNTS, 0, 0, 0, 0);
        Setup.ifOpened("cut", cut, REASON, 4, 0, 0, 4);
        FogOrders third = given("0m1;2s0-1;3m5", 0, 0, 1, 1, 0, 5, 2, 6);
        Setup.ifOpened("cut by a third seat", third, CUT, 0, 0, 1, 0);
        FogOrders useless = given("0s2-1;1m0", 0, 0, 1, 4);
        Setup.ifOpened("cut, though of no use", useless, CUT, 1, 0);
        Setup.ifOpened("cut, though of no use", useless, COUNTS, 0, 0);
        FogOrders failing = given("0m1;2s0-1;3m5;4m5", 0, 0, 1, 1, 0, 5, 1, 6, 2, 4);
        Setup.ifOpened("cut by moves that fail", failing, CUT, 0, 0, 1, 0, 0);
        Setup.ifOpened("cut by moves that fail", failing, REASON, 4, 0, 0, 1, 1);
        FogOrders fromFrom = given("0m5;1s9-1", 1, 9, 0, 5);
        Setup.ifOpened("cut by the army that it is for", fromFrom, CUT, 0, 1);
        Setup.ifOpened("cut by the army that it is for", fromFrom, COUNTS, 0, 0);
        FogOrders staying = given("0s1-1;2m0", 0, 0, 0, 1, 1, 4);
        Setup.ifOpened("cut in staying", staying, CUT, 1, 0, 0);
        Setup.ifOpened("cut in staying", staying, STRENGTH, 1, 1, 1);
    }

    private static void notCut() {
        FogOrders own = given("0m1;2s0-1;3m5", 0, 0, 1, 1, 0, 5, 0, 6);
        Setup.ifOpened("own move", own, CUT, 0, 0, 0, 0);
        Setup.ifOpened("own move", own, COUNTS, 0, 0, 1, 0);
        FogOrders fromTo = given("0m1;1m5;2s0-1", 0, 0, 1, 1, 0, 5);
        Setup.ifOpened("move from its field to", fromTo, CUT, 0, 0, 0);
        Setup.ifOpened("move from its field to", fromTo, COUNTS, 0, 0, 1);
        Setup.ifOpened("move from its field to", fromTo, REASON, 0, 4, 0);
        opened("move from its field to", fromTo, 1, 1, 2, 5);
        Setup.ifOpened("a move that is no support", given("0m1;1m0", 0, 0, 1, 1), CUT, 0, 0);
        Setup.ifOpened("an army that holds", given("1m0", 0, 0, 1, 1), CUT, 0, 0);
    }

    private static void lowestRetreats() {
        FogOrders orders = given("0m1;2s9-1", 0, 9, 1, 1, 0, 5);
        opened("lowest neighbour", orders, 0, 1, 0, 5);
        FogOrders taken = given("0m1;2s9-1", 0, 9, 1, 1, 0, 5, 2, 0);
        opened("lowest is taken", taken, 0, 1, 2, 5, 0);
        FogOrders came = given("0m1;2s0-1", 0, 0, 1, 1, 0, 5);
        opened("the driver came from the lowest", came, 0, 1, 2, 5);
        FogOrders entered = given("0m1;2s9-1;3m0", 0, 9, 1, 1, 0, 5, 2, 4);
        opened("lowest is entered", entered, 0, 1, 2, 5, 0);
    }

    private static void retreatsInTurn() {
        FogOrders orders = given("2m0;4s1-0;3m3;5s2-3", 1, 0, 1, 3, 0, 1, 0, 2, 0, 8, 0, 7);
        opened("lowest number first", orders, 0, 4, 11, 0, 3, 8, 7);
        FogOrders other = given("2m0;4s1-0;3m3;5s2-3", 1, 3, 1, 0, 0, 1, 0, 2, 0, 8, 0, 7);
        opened("lowest number first, exchanged", other, 0, 4, 11, 0, 3, 8, 7);
    }

    private static void strongerFirst() {
        FogOrders orders = given("2m0;4s1-0;3m3;5s2-3;6s2-3", 1, 0, 1, 3, 0, 1, 0, 2, 0, 8, 0, 7, 2, 11);
        Setup.ifOpened("stronger first", orders, STRENGTH, 1, 1, 2, 3, 1, 1, 1);
        Setup.ifOpened("stronger first", orders, FIELD, -1, 4, 0, 3, 8, 7, 11);
        Setup.ifOpened("stronger first", orders, DRIVEN, 1, 1, 0, 0, 0, 0, 0);
        Check.due("stronger first danger()", orders.danger(), 1);
        Check.due("stronger first open()", orders.open(), 0);
        Setup.armyOf("stronger first", orders, 1, 4, 0, 3, 8, 7, 11);
        Check.due("driven off", orders.count(6), 2);
        Check.due("disbanded", orders.count(7), 1);
    }

    private static void noRetreatToABounce() {
        FogOrders orders = given("1m0;2s1-0;3m4;4m4", 1, 0, 0, 1, 0, 8, 2, 3, 0, 5);
        Setup.ifOpened("bounce on 4", orders, REASON, 0, 0, 0, 1, 1);
        opened("bounce on 4", orders, 2, 11, 0, 8, 3, 5);
        FogOrders none = given("1m0;2s1-0;3m4;4m4", 1, 0, 0, 1, 0, 8, 2, 3, 0, 5, 2, 11);
        Setup.ifOpened("no room but there", none, FIELD, -1, 0, 8, 3, 5, 11);
    }

    /** The stronger rival fails for the reason 2, and the field is left; the weaker one's bounce closes it still. */
    private static void noRetreatBehindAStrongerRival() {
        FogOrders orders = given("0m0;1m0;2s1-0;3m1;4s0-1;5s0-1;7m4;8s3-4",
                2, 8, 1, 1, 1, 11, 0, 0, 0, 2, 0, 9, 1, 4, 0, 3, 0, 5);
        Setup.ifOpened("stronger rival", orders, STRENGTH, 1, 2, 1, 3, 1, 1, 1, 2, 1);
        Setup.ifOpened("stronger rival", orders, REASON, 1, 2, 0, 0, 0, 0, 0, 0, 0);
        Setup.ifOpened("stronger rival", orders, FIELD, 8, -1, 11, 1, 2, 9, -1, 4, 5);
        orders.hold(0);
        Setup.ifOpened("without the weaker one", orders, FIELD, 8, -1, 11, 1, 2, 9, 0, 4, 5);
    }

    private static void nothingIsLeftOfDropped() {
        FogOrders orders = given("1m0;2s1-0;3m4;4m4", 1, 0, 0, 1, 0, 8, 2, 3, 0, 5);
        Setup.ifOpened("before a drop", orders, FIELD, 11, 0, 8, 3, 5);
        orders.drop(4);
        orders.drop(3);
        Setup.ifOpened("the bounce is gone", orders, FIELD, 4, 0, 8);
        orders.drop(2);
        Setup.ifOpened("the support is gone", orders, STRENGTH, 1, 1);
        Setup.ifOpened("the support is gone", orders, REASON, 0, 4);
        orders.drop(1);
        Setup.ifOpened("the move is gone", orders, DRIVEN, 0);
        orders.army(2, 1);
        Setup.ifOpened("another in its place", orders, FIELD, 0, 1);
    }

    private static void retreatToAFieldLeft() {
        FogOrders orders = given("0m1;1m0;2s0-1;4m4;5s3-4", 0, 0, 1, 1, 0, 5, 1, 4, 0, 3, 0, 8);
        Setup.ifOpened("left by a swap", orders, REASON, 0, 2, 0, 0, 0, 0);
        opened("left by a swap", orders, 1, 1, 2, 5, 0, 4, 8);
    }

    private static void disbanded() {
        FogOrders orders = given("0m1;2s9-1;4h", 0, 9, 1, 1, 0, 5, 1, 0, 2, 2);
        Setup.ifOpened("disbanded", orders, FIELD, 1, -1, 5, 0, 2);
        Setup.ifOpened("disbanded", orders, DRIVEN, 0, 1, 0, 0, 0);
        Check.due("disbanded open()", orders.open(), 0);
        Setup.armyOf("behind a disbanded one", orders, 0, 0, 0, 1, 2);
        Setup.armyOf("behind a disbanded one", orders, 1, 1, 5, 0, 2);
        Setup.armyOf("behind a disbanded one", orders, 5, 1, 0, 0, 0);
        Check.due("driven off", orders.count(6), 1);
        Check.due("disbanded", orders.count(7), 1);
        Check.due("taken off", orders.count(9), 0);
        orders.undo();
        Check.due("undone", orders.count(0), 5);
        Check.due("undone disbanded", orders.count(7), 0);
    }

    /** Two are disbanded at one opening, and one that stands between them stays. */
    private static void twoDisbanded() {
        FogOrders orders = given("2m0;4s1-0;3m3;5s2-3", 1, 0, 1, 3, 0, 1, 0, 2, 0, 8, 0, 7, 2, 4, 2, 11);
        Setup.ifOpened("two disbanded", orders, FIELD, -1, -1, 0, 3, 8, 7, 4, 11);
        Check.due("two disbanded open()", orders.open(), 0);
        Setup.armyOf("two disbanded", orders, 1, 0, 3, 8, 7, 4, 11);
        Setup.armyOf("two disbanded", orders, 0, 0, 0, 0, 0, 2, 2);
        Setup.armyOf("two disbanded", orders, 5, 1, 1, 0, 0, 0, 0);
        Check.due("two disbanded count(7)", orders.count(7), 2);
    }

    private static void countedSoFar() {
        FogOrders orders = given("0m1;1m1", 0, 0, 1, 2);
        orders.open();
        Setup.give(orders, "0m1;1m3");
        Check.due("second open()", orders.open(), 0);
        Check.due("openings", orders.count(3), 2);
        Check.due("succeeded", orders.count(4), 2);
        Check.due("failed", orders.count(5), 2);
        Setup.armyOf("so far", orders, 5, 1, 1);
        Setup.armyOf("so far", orders, 6, 1, 1);
        orders.drop(0);
        Check.due("a dropped army's moves still count", orders.count(4), 2);
    }
}
