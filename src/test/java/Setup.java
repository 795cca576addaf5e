/** Short ways to bring an object to where a test wants it. */
final class Setup {
    private Setup() {
    }

    /** Armies in the order given, each as seat and field: armies(0, 4, 1, 5) sets up seat 0 on 4, seat 1 on 5. */
    static FogOrders armies(int... seatsAndFields) {
        FogOrders orders = new FogOrders();
        for (int i = 0; i + 1 < seatsAndFields.length; i += 2) {
            orders.army(seatsAndFields[i], seatsAndFields[i + 1]);
        }
        return orders;
    }

    static FogOrders type(FogOrders orders, String text) {
        for (int i = 0; i < text.length(); i++) {
            orders.append(text.charAt(i));
        }
        return orders;
    }

    /** Gives orders that are all possible, as a text. */
    static FogOrders give(FogOrders orders, String text) {
        orders.clearBuffer();
        type(orders, text);
        Check.due("orders() of " + text, orders.orders(), text.split(";").length);
        return orders;
    }

    static int mask(int... fields) {
        int mask = 0;
        for (int field : fields) {
            mask |= 1 << field;
        }
        return mask;
    }

    /** Checks ifOpened(army, what) of all armies, from 0 on. */
    static void ifOpened(String name, FogOrders orders, int what, int... want) {
        Check.due(name + " armies", orders.count(0), want.length);
        for (int army = 0; army < want.length; army++) {
            Check.due(name + " ifOpened(" + army + ", " + what + ")", orders.ifOpened(army, what), want[army]);
        }
    }

    /** Checks armyOf(army, what) of all armies, from 0 on. */
    static void armyOf(String name, FogOrders orders, int what, int... want) {
        Check.due(name + " armies", orders.count(0), want.length);
        for (int army = 0; army < want.length; army++) {
            Check.due(name + " armyOf(" + army + ", " + what + ")", orders.armyOf(army, what), want[army]);
        }
    }
}
