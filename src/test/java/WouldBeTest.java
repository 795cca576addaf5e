/** Promises 19 to 24: ifOpened, canReach, danger, ifYear, success, digest. */
public final class WouldBeTest {
    private static final int[] EXTREMES = {-1, Integer.MIN_VALUE, Integer.MAX_VALUE, 1 << 30, 613566757};

    public static void main(String[] args) {
        ifOpenedChangesNothing();
        ifOpenedBeforeTheYearEnds();
        ifOpenedRefused();
        reachFreely();
        reachAgainstArmies();
        reachWithSupport();
        reachThatChangesOthers();
        reachRefused();
        dangers();
        dangerOfSeveral();
        yearsIf();
        yearIfRefused();
        shares();
        digestOfNothing();
        digestTellsAll();
        digestOfShares();
        digestOfACopy();
        Check.end("WouldBeTest");
    }

    private static FogOrders given(String text, int... seatsAndFields) {
        return Setup.give(Setup.armies(seatsAndFields), text);
    }

    private static void ifOpenedChangesNothing() {
        FogOrders orders = given("0m1;2s9-1", 0, 9, 1, 1, 0, 5);
        long before = orders.digest();
        for (int army = 0; army < 3; army++) {
            for (int what = 0; what < 6; what++) {
                orders.ifOpened(army, what);
            }
            orders.canReach(army);
        }
        orders.danger();
        orders.ifYear(0);
        orders.success();
        Check.due("digest", orders.digest(), before);
        Check.due("openings", orders.count(3), 0);
    }

    private static void ifOpenedBeforeTheYearEnds() {
        FogOrders orders = Setup.armies(0, 1, 0, 2, 0, 4);
        orders.open();
        Setup.ifOpened("in autumn", orders, 0, 1, 2, 4);
        orders.open();
        Check.due("behind it", orders.count(0), 1);
    }

    private static void ifOpenedRefused() {
        FogOrders orders = Setup.armies(0, 0, 1, 1);
        Check.outOfBounds(orders, "ifOpened(2, 0)", () -> orders.ifOpened(2, 0));
        Check.outOfBounds(orders, "ifOpened(2, 6)", () -> orders.ifOpened(2, 6));
        Check.illegalArgument(orders, "ifOpened(1, 6)", () -> orders.ifOpened(1, 6));
        for (int bad : EXTREMES) {
            Check.outOfBounds(orders, "ifOpened(" + bad + ", 0)", () -> orders.ifOpened(bad, 0));
            Check.outOfBounds(orders, "ifOpened(" + bad + ", 6)", () -> orders.ifOpened(bad, 6));
            Check.illegalArgument(orders, "ifOpened(0, " + bad + ")", () -> orders.ifOpened(0, bad));
        }
    }

    private static void reach(String name, FogOrders orders, int army, int... fields) {
        Check.due(name + " canReach(" + army + ")", orders.canReach(army), Setup.mask(fields));
    }

    private static void reachFreely() {
        FogOrders orders = Setup.armies(0, 0);
        reach("free", orders, 0, 1, 4, 8, 11);
        orders.move(0, 1);
        reach("whatever its order", orders, 0, 1, 4, 8, 11);
        orders.support(0, 1, 1);
        reach("whatever its order", orders, 0, 1, 4, 8, 11);
        Check.due("its order stays", orders.armyOf(0, 2), 2);
    }

    private static void reachAgainstArmies() {
        FogOrders orders = Setup.armies(0, 0, 0, 1, 1, 4, 1, 2, 2, 7);
        reach("holders stand on 1 and 4", orders, 0, 8, 11);
        Setup.give(orders, "1m5;4m8");
        reach("1 is left, 8 is fought for", orders, 0, 1, 11);
        Setup.give(orders, "2m0");
        reach("no exchange with 4", orders, 0, 1, 11);
        FogOrders closed = Setup.armies(0, 0, 0, 1, 0, 4, 0, 8, 0, 11);
        reach("closed in", closed, 0);
    }

    private static void reachWithSupport() {
        FogOrders orders = given("2s0-1", 0, 0, 1, 1, 0, 5);
        reach("supported against 1", orders, 0, 1, 4, 8, 11);
        FogOrders fought = given("2s0-1;1m1", 0, 0, 1, 2, 0, 5);
        reach("supported against a move", fought, 0, 1, 4, 8, 11);
        FogOrders own = given("2s0-1", 0, 0, 0, 1, 0, 5);
        reach("supported against its own", own, 0, 4, 8, 11);
    }

    /** The army's own order counts no longer then: not the support that it gave, not that it stayed. */
    private static void reachThatChangesOthers() {
        FogOrders missing = given("0s4-4;2s0-4", 0, 0, 1, 4, 0, 5);
        Setup.ifOpened("its own support", missing, 1, 1, 2, 1);
        reach("without its own support", missing, 0, 1, 4, 8, 11);
        FogOrders leaving = given("1m0;2m1", 0, 0, 0, 4, 0, 5);
        reach("it may leave", leaving, 0, 8, 11);
        FogOrders circle = given("1m5;2m4;3m0", 0, 0, 1, 1, 2, 5, 0, 4);
        reach("in a circle", circle, 0, 1, 8, 11);
    }

    private static void reachRefused() {
        FogOrders orders = Setup.armies(0, 0, 1, 1);
        Check.outOfBounds(orders, "canReach(2)", () -> orders.canReach(2));
        for (int bad : EXTREMES) {
            Check.outOfBounds(orders, "canReach(" + bad + ")", () -> orders.canReach(bad));
        }
    }

    private static void dangers() {
        FogOrders orders = new FogOrders();
        Check.due("danger() without armies", orders.danger(), -1);
        orders.army(0, 9);
        orders.army(1, 1);
        orders.army(0, 5);
        Check.due("danger() of holders", orders.danger(), -1);
        orders.move(0, 1);
        Check.due("danger() of a move that fails", orders.danger(), -1);
        orders.support(2, 9, 1);
        Check.due("danger() of one", orders.danger(), 1);
        orders.army(2, 2);
        Check.due("danger() beside a holder", orders.danger(), 1);
        orders.support(3, 1, 1);
        Check.due("danger() with a support in staying", orders.danger(), -1);
    }

    private static void dangerOfSeveral() {
        String even = "2m0;4s1-0;3m3;5s2-3";
        FogOrders orders = given(even, 1, 0, 1, 3, 0, 1, 0, 2, 0, 8, 0, 7, 2, 11);
        Check.due("danger() of two alike", orders.danger(), 0);
        orders.support(6, 2, 3);
        Check.due("danger() with a stronger move", orders.danger(), 1);
        orders.support(6, 1, 0);
        Check.due("danger() with the other stronger", orders.danger(), 0);
    }

    private static void yearsIf() {
        FogOrders orders = Setup.armies(0, 0, 1, 8, 0, 5);
        yearIf("in spring", orders, 1, 0, 0);
        orders.move(2, 9);
        yearIf("with a move to a centre", orders, 2, 0, 0);
        orders.move(1, 9);
        yearIf("with a bounce on it", orders, 1, 0, 0);
        orders.hold(1);
        orders.open();
        orders.open();
        Check.due("centres", orders.seat(0, 1), 2);
        yearIf("a year later", orders, 2, 0, 0);
        Setup.give(orders, "0m11;1m0");
        yearIf("one changes", orders, 1, 1, 0);
        orders.hold(1);
        yearIf("one is left", orders, 2, 0, 0);
        FogOrders retreat = given("0m1;2s9-1", 0, 9, 1, 1, 0, 5);
        yearIf("a retreat to a centre", retreat, 0, 1, 0);
        FogOrders driven = given("0m3;2s2-3", 2, 2, 1, 3, 2, 7);
        yearIf("driven off a centre", driven, 0, 0, 1);
    }

    private static void yearIf(String name, FogOrders orders, int... want) {
        for (int seat = 0; seat < 3; seat++) {
            Check.due(name + " ifYear(" + seat + ")", orders.ifYear(seat), want[seat]);
        }
    }

    private static void yearIfRefused() {
        FogOrders orders = Setup.armies(0, 0);
        Check.outOfBounds(orders, "ifYear(3)", () -> orders.ifYear(3));
        for (int bad : EXTREMES) {
            Check.outOfBounds(orders, "ifYear(" + bad + ")", () -> orders.ifYear(bad));
        }
    }

    private static void shares() {
        FogOrders orders = Setup.armies(0, 0, 1, 2);
        Check.dueShare("success() without moves", orders.success(), 1.0);
        Setup.give(orders, "0m1;1m1");
        Check.dueShare("success() before opening", orders.success(), 1.0);
        orders.open();
        Check.dueShare("success() of none", orders.success(), 0.0);
        orders.move(0, 1);
        orders.open();
        Check.dueShare("success() of one in three", orders.success(), 1.0 / 3.0);
        orders.move(0, 0);
        orders.open();
        Check.dueShare("success() of two in four", orders.success(), 0.5);
        orders.undo();
        Check.dueShare("success() undone", orders.success(), 1.0 / 3.0);
        FogOrders one = given("0m1", 0, 0, 0, 1);
        one.open();
        Check.dueShare("success() of one that failed", one.success(), 0.0);
        FogOrders all = given("0m1", 0, 0);
        all.open();
        Check.dueShare("success() of all", all.success(), 1.0);
    }

    private static long mixed(long hash, long... values) {
        long mix = hash;
        for (long value : values) {
            mix = 31 * mix + value;
        }
        return mix;
    }

    /** Asks the object itself for all that the digest is made of. */
    private static long reckoned(FogOrders orders, String text) {
        long hash = 3701;
        for (int what = 0; what < 13; what++) {
            hash = mixed(hash, orders.count(what));
        }
        for (int army = 0; army < orders.count(0); army++) {
            for (int what = 0; what < 7; what++) {
                hash = mixed(hash, orders.armyOf(army, what));
            }
            for (int what = 0; what < 6; what++) {
                hash = mixed(hash, orders.ifOpened(army, what));
            }
            hash = mixed(hash, orders.canReach(army));
        }
        for (int field = 0; field < 12; field++) {
            for (int what = 0; what < 5; what++) {
                hash = mixed(hash, orders.field(field, what));
            }
        }
        for (int seat = 0; seat < 3; seat++) {
            for (int what = 0; what < 5; what++) {
                hash = mixed(hash, orders.seat(seat, what));
            }
            hash = mixed(hash, orders.ifYear(seat));
        }
        hash = mixed(hash, orders.danger(), Double.doubleToLongBits(orders.success()), text.length());
        return mixed(hash, text.chars().asLongStream().toArray());
    }

    private static void digestOfNothing() {
        FogOrders orders = new FogOrders();
        Check.due("digest() of a new object", orders.digest(), reckoned(orders, ""));
        Check.due("digest() again", orders.digest(), new FogOrders().digest());
    }

    private static void digestTellsAll() {
        FogOrders orders = given("0m1;2s9-1;3m0;4m0", 0, 9, 1, 1, 0, 5, 2, 4, 2, 11);
        Check.due("digest() of orders", orders.digest(), reckoned(orders, ""));
        for (int i = 0; i < 5; i++) {
            orders.open();
            Check.due("digest() behind opening " + i, orders.digest(), reckoned(orders, ""));
            orders.move(0, Integer.numberOfTrailingZeros(orders.field(orders.armyOf(0, 1), 4)));
        }
        Setup.type(orders, "0h;~!");
        Check.due("digest() with a text", orders.digest(), reckoned(orders, "0h;~!"));
    }

    /** The bits of many shares: so many of the moves go from 0 to 4 and back, the others fail at an own army. */
    private static void digestOfShares() {
        for (int good = 0; good <= 40; good++) {
            FogOrders orders = Setup.armies(0, 0, 1, 6, 1, 7);
            for (int i = 0; i < 40; i++) {
                if (i < good) {
                    orders.move(0, i % 2 == 0 ? 4 : 0);
                } else {
                    orders.move(1, 7);
                }
                orders.open();
            }
            Check.dueShare("success() of " + good + " in 40", orders.success(), good / 40.0);
            Check.due("digest() with " + good + " in 40", orders.digest(), reckoned(orders, ""));
        }
    }

    private static void digestOfACopy() {
        FogOrders one = Setup.armies(0, 0, 1, 1);
        FogOrders two = Setup.armies(0, 0, 1, 1);
        Check.due("digest() of the same calls", one.digest(), two.digest());
        two.keep();
        Check.due("digest() with a snapshot", one.digest(), two.digest());
        two.append('x');
        Check.note(one.digest() != two.digest(), "digest() tells the text");
    }
}
