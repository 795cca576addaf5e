/** Promises 8 to 11: append, clearBuffer, firstError, orders. */
public final class TextTest {
    private static final int[] NO_CODES = {32, 127, 0, -1, 128, 255, 65536 + 'h', Integer.MIN_VALUE, Integer.MAX_VALUE};

    public static void main(String[] args) {
        codes();
        fullBuffer();
        clears();
        noErrors();
        errors();
        everyCodeInEveryState();
        incompleteOrders();
        ordersGiven();
        ordersOneAfterTheOther();
        impossibleOrders();
        numbersOfTwoDigits();
        ordersAreUndoneAsOne();
        longestOrders();
        Check.end("TextTest");
    }

    private static FogOrders typed(String text) {
        return Setup.type(new FogOrders(), text);
    }

    private static void codes() {
        FogOrders orders = new FogOrders();
        Check.due("append(33)", orders.append(33), 1);
        Check.due("append(126)", orders.append(126), 2);
        Check.due("append('h')", orders.append('h'), 3);
        for (int code : NO_CODES) {
            Check.illegalArgument(orders, "append(" + code + ")", () -> orders.append(code));
        }
        Check.due("append saves nothing", orders.count(12), 0);
        Check.due("length", orders.clearBuffer(), 3);
    }

    private static void fullBuffer() {
        FogOrders orders = new FogOrders();
        for (int i = 1; i <= 60; i++) {
            Check.due("append " + i, orders.append('x'), i);
        }
        Check.illegalState(orders, "append of a 61st", () -> orders.append('x'));
        for (int code : NO_CODES) {
            Check.illegalArgument(orders, "append(" + code + ") of a 61st", () -> orders.append(code));
        }
        Check.due("clearBuffer of 60", orders.clearBuffer(), 60);
        Check.due("append again", orders.append('x'), 1);
    }

    private static void clears() {
        FogOrders orders = typed("0h;1");
        Check.due("clearBuffer", orders.clearBuffer(), 4);
        Check.due("clearBuffer again", orders.clearBuffer(), 0);
        Check.due("clearBuffer saves nothing", orders.count(12), 0);
        orders.army(0, 0);
        Setup.type(orders, "0h");
        orders.undo();
        Check.due("undo leaves the buffer", orders.clearBuffer(), 2);
    }

    private static void noErrors() {
        String[] texts = {"", "0", "8", "0h", "0m", "0m1", "0m0", "0m9", "0m10", "0m11", "0s", "0s1", "0s11",
            "0s1-", "0s10-1", "0s0-0", "8s11-11", "0h;", "0m1;", "0m11;8s1-10;0h", "0m1;0m1;0m1;0", "3s4-5;3",
            "0h;1h;2h;3h;4h;5h;6h;7h;8h;0h;1h;2h;3h;4h;5h;6h;7h;8h;0h;1h;"};
        for (String text : texts) {
            FogOrders orders = typed(text);
            Check.due("firstError of " + text, orders.firstError(), text.length());
            Check.due("firstError leaves the buffer of " + text, orders.clearBuffer(), text.length());
        }
    }

    private static void errors() {
        Object[][] texts = {{"9", 0}, {"h", 0}, {";", 0}, {"-", 0}, {"00", 1}, {"0-", 1}, {"0;", 1}, {"0x", 1},
            {"0hh", 2}, {"0h0", 2}, {"0h;;", 3}, {"0h;9", 3}, {"0mm", 2}, {"0m;", 2}, {"0m00", 3}, {"0m01", 3},
            {"0m12", 3}, {"0m19", 3}, {"0m20", 3}, {"0m110", 4}, {"0m1-", 3}, {"0m10-", 4}, {"0s;", 2}, {"0s-", 2},
            {"0s1;", 3}, {"0s12", 3}, {"0s00", 3}, {"0s111", 4}, {"0s1--", 4}, {"0s1-;", 4}, {"0s1-12", 5},
            {"0s1-00", 5}, {"0s1-110", 6}, {"0s1-1-", 5}, {"0H", 1}, {"0M1", 1}, {"0h,", 2}, {"0h:", 2},
            {"9;9", 0}, {"0h;x;x", 3}, {"0m1;1m3;2m12;", 11}, {"1h;2s3-4x", 8}, {"!", 0}, {"~", 0}, {"/", 0},
            {"0m/", 2}, {"0m:", 2}, {"0s11-1/", 6}};
        for (Object[] row : texts) {
            FogOrders orders = typed((String) row[0]);
            Check.due("firstError of " + row[0], orders.firstError(), (Integer) row[1]);
            Check.illegalArgument(orders, "orders() of " + row[0], () -> orders.orders());
            Setup.type(orders, "0h;");
            Check.due("firstError of more than " + row[0], orders.firstError(), (Integer) row[1]);
        }
    }

    /** Every character behind texts that end at every place of a part. */
    private static void everyCodeInEveryState() {
        String[] begins = {"", "0", "8h", "0h;", "0m", "0m0", "0m1", "0m2", "0m9", "0m10", "0m11", "0s", "0s0",
            "0s1", "0s2", "0s10", "0s11", "0s1-", "0s11-", "0s1-0", "0s1-1", "0s1-9", "0s1-10", "0s1-11"};
        for (String begin : begins) {
            FogOrders orders = new FogOrders();
            for (int code = 33; code <= 126; code++) {
                String text = begin + (char) code;
                orders.clearBuffer();
                Setup.type(orders, text);
                int due = Model.canBegin(text) ? text.length() : begin.length();
                Check.due("firstError of " + text, orders.firstError(), due);
            }
        }
    }

    private static void incompleteOrders() {
        String[] texts = {"", "0", "0m", "0s", "0s1", "0s1-", "0s11-", "0h;", "0m1;", "0s1-0;", "0h;1", "0h;1m",
            "0h;;1h", "x"};
        for (String text : texts) {
            FogOrders orders = Setup.armies(0, 0, 1, 1);
            Setup.type(orders, text);
            Check.illegalArgument(orders, "orders() of " + text, () -> orders.orders());
            Check.due("no state is saved by " + text, orders.count(12), 2);
            Check.due("the buffer stays at " + text, orders.clearBuffer(), text.length());
        }
    }

    private static void ordersGiven() {
        FogOrders orders = Setup.armies(0, 0, 1, 1, 2, 2, 0, 11);
        orders.move(3, 10);
        Setup.type(orders, "0m4;1s0-4;1s5-5;2s1-1;3h");
        Check.due("orders()", orders.orders(), 4);
        Check.due("the buffer is cleared", orders.clearBuffer(), 0);
        Setup.armyOf("given", orders, 2, 1, 2, 2, 0);
        Setup.armyOf("given", orders, 3, 4, 5, 1, -1);
        Setup.armyOf("given", orders, 4, -1, 5, 1, -1);
        Check.due("moves now", orders.count(10), 1);
        Check.due("supports now", orders.count(11), 2);
    }

    private static void ordersOneAfterTheOther() {
        FogOrders orders = Setup.armies(0, 0);
        Setup.type(orders, "0m1;0s1-1;0h;0m11");
        Check.due("orders() of one army", orders.orders(), 4);
        Setup.armyOf("the last stands", orders, 2, 1);
        Setup.armyOf("the last stands", orders, 3, 11);
        Setup.type(orders, "0s8-4;0m2");
        Check.due("orders() with an impossible last one", orders.orders(), 1);
        Setup.armyOf("the last possible one stands", orders, 3, 4);
        Setup.armyOf("the last possible one stands", orders, 4, 8);
    }

    private static void impossibleOrders() {
        FogOrders orders = Setup.armies(0, 0, 1, 1);
        Setup.type(orders, "2h;8h;2m1;2s1-1;0m0;0m2;0m10;0s2-2;0s3-1");
        Check.due("orders() of impossible ones", orders.orders(), 0);
        Check.due("the buffer is cleared", orders.clearBuffer(), 0);
        Check.due("orders() of none saves", orders.count(12), 3);
        Setup.armyOf("none given", orders, 2, 0, 0);
        FogOrders none = typed("0h;1m2");
        Check.due("orders() without armies", none.orders(), 0);
        Check.due("orders() without armies saves", none.count(12), 1);
    }

    private static void numbersOfTwoDigits() {
        FogOrders orders = Setup.armies(0, 10, 0, 9, 0, 0, 0, 7);
        Setup.type(orders, "0m11;1m10;2s10-11;3s11-11");
        Check.due("orders() with two digits", orders.orders(), 4);
        Setup.armyOf("two digits", orders, 3, 11, 10, 11, 11);
        Setup.armyOf("two digits", orders, 4, -1, -1, 10, 11);
        Setup.type(orders, "1s11-10;0s0-11;2m1;3h");
        Check.due("orders() with one and two digits", orders.orders(), 4);
        Setup.armyOf("one and two digits", orders, 3, 11, 10, 1, -1);
        Setup.armyOf("one and two digits", orders, 4, 0, 11, -1, -1);
    }

    private static void ordersAreUndoneAsOne() {
        FogOrders orders = Setup.armies(0, 0, 1, 1);
        orders.move(1, 9);
        Setup.type(orders, "0m4;1h;0m8");
        orders.orders();
        Check.due("one state is saved", orders.count(12), 4);
        Setup.type(orders, "xy");
        Check.due("undo of orders()", orders.undo(), 3);
        Setup.armyOf("undone", orders, 2, 0, 1);
        Setup.armyOf("undone", orders, 3, -1, 9);
        Check.due("the buffer stays at undo", orders.clearBuffer(), 2);
    }

    private static void longestOrders() {
        String text = "0s10-11;1s10-11;2s10-11;3s10-11;4s10-11;5s10-11;6m10;7m11;8h";
        Check.due("length", text.length(), 60);
        FogOrders orders = Setup.armies(0, 0, 0, 3, 0, 7, 0, 10, 1, 1, 1, 2, 1, 6, 2, 5, 2, 4);
        Setup.type(orders, text);
        Check.due("firstError of 60", orders.firstError(), 60);
        Check.due("orders() of 60", orders.orders(), 6);
        Setup.armyOf("of 60", orders, 2, 2, 2, 2, 2, 0, 0, 1, 0, 0);
    }
}
