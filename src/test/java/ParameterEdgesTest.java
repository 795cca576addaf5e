import java.util.function.IntFunction;

/** Every parameter of every method: all that it may be, and what is too small or too large by 1 or by much. */
public final class ParameterEdgesTest {
    private static final String BOUNDS = "IndexOutOfBoundsException";
    private static final String ARGUMENT = "IllegalArgumentException";

    /** A call with one parameter left open. */
    private interface Asked {
        long answer(FogOrders orders, int value);
    }

    public static void main(String[] args) {
        for (int armies : new int[] {0, 1, 8, 9}) {
            armyNumbers(armies);
        }
        seats();
        fields();
        codes();
        whats();
        Check.end("ParameterEdgesTest");
    }

    /** From low to high the call answers; outside it throws, and leaves all as it was. */
    private static void range(String call, int low, int high, String thrown, IntFunction<FogOrders> made,
            Asked asked) {
        for (int value = low; value <= high; value++) {
            answers(call + " of " + value, made.apply(value), asked, value);
        }
        int[] outside = {low - 1, high + 1, low - 2, high + 2, -high - 1, Integer.MIN_VALUE, Integer.MAX_VALUE,
            low + 256, low + 65536, low + (1 << 30), high - (1 << 30), 613566757};
        for (int value : outside) {
            FogOrders orders = made.apply(value);
            Check.refused(orders, call + " of " + value, () -> asked.answer(orders, value), thrown);
        }
    }

    private static void answers(String call, FogOrders orders, Asked asked, int value) {
        String got = "answered";
        try {
            asked.answer(orders, value);
        } catch (RuntimeException e) {
            got = e.getClass().getSimpleName();
        }
        Check.due(call + " " + got, got.equals("answered") ? 1 : 0, 1);
    }

    /** So many armies, the army i on the field i. */
    private static FogOrders onFirstFields(int armies) {
        FogOrders orders = new FogOrders();
        for (int i = 0; i < armies; i++) {
            orders.army(i % 3, i);
        }
        return orders;
    }

    /** One army, on a neighbour of the field, if there is such a field. */
    private static FogOrders beside(int field) {
        return Setup.armies(0, field >= 1 && field <= 11 ? field - 1 : field == 0 ? 1 : 0);
    }

    private static int fieldOr(int field, int other) {
        return field >= 0 && field <= 11 ? field : other;
    }

    /** "if there is no such army": with none 0 is too large, with nine 8 is the last. */
    private static void armyNumbers(int armies) {
        armyRange("drop", armies, (orders, army) -> orders.drop(army));
        armyRange("hold", armies, (orders, army) -> orders.hold(army));
        armyRange("move", armies, (orders, army) -> orders.move(army, near(army)));
        armyRange("support", armies, (orders, army) -> orders.support(army, near(army), near(army)));
        armyRange("canReach", armies, (orders, army) -> orders.canReach(army));
        for (int i = 0; i <= 6; i++) {
            int what = i;
            armyRange("armyOf " + what, armies, (orders, army) -> orders.armyOf(army, what));
        }
        for (int i = 0; i <= 5; i++) {
            int what = i;
            armyRange("ifOpened " + what, armies, (orders, army) -> orders.ifOpened(army, what));
        }
    }

    private static void armyRange(String call, int armies, Asked asked) {
        range(call + " with " + armies + " armies", 0, armies - 1, BOUNDS, any -> onFirstFields(armies), asked);
    }

    /** A neighbour of the field on which the army stands, and some field if there is no such army. */
    private static int near(int army) {
        return army >= 1 && army <= 8 ? army - 1 : 1;
    }

    /** "seat: 0 to 2". */
    private static void seats() {
        range("army's seat", 0, 2, BOUNDS, any -> onFirstFields(8), (orders, seat) -> orders.army(seat, 11));
        range("ifYear's seat", 0, 2, BOUNDS, any -> onFirstFields(8), (orders, seat) -> orders.ifYear(seat));
        for (int i = 0; i <= 4; i++) {
            int what = i;
            range("seat's seat, " + what, 0, 2, BOUNDS, any -> onFirstFields(8),
                    (orders, seat) -> orders.seat(seat, what));
        }
    }

    /** "field", "to" and "from": "0 to 11". */
    private static void fields() {
        range("army's field", 0, 11, BOUNDS, any -> new FogOrders(), (orders, field) -> orders.army(2, field));
        range("move's to", 0, 11, BOUNDS, ParameterEdgesTest::beside, (orders, to) -> orders.move(0, to));
        range("support's from", 0, 11, BOUNDS, ParameterEdgesTest::beside,
                (orders, from) -> orders.support(0, from, fieldOr(from, 1)));
        range("support's to", 0, 11, BOUNDS, ParameterEdgesTest::beside,
                (orders, to) -> orders.support(0, fieldOr(to, 1), to));
        range("support's from and to", 0, 11, BOUNDS, ParameterEdgesTest::beside,
                (orders, field) -> orders.support(0, field, field));
        for (int i = 0; i <= 4; i++) {
            int what = i;
            range("field's field, " + what, 0, 11, BOUNDS, any -> onFirstFields(9),
                    (orders, field) -> orders.field(field, what));
        }
    }

    /** "code: the character code, 33 to 126". */
    private static void codes() {
        range("append's code", 33, 126, ARGUMENT, any -> new FogOrders(), (orders, code) -> orders.append(code));
    }

    /** "if what is not 0 to ...", for the first and the last army, field and seat. */
    private static void whats() {
        for (int army : new int[] {0, 8}) {
            whatRange("armyOf's what", 6, (orders, what) -> orders.armyOf(army, what));
            whatRange("ifOpened's what", 5, (orders, what) -> orders.ifOpened(army, what));
        }
        for (int field : new int[] {0, 11}) {
            whatRange("field's what", 4, (orders, what) -> orders.field(field, what));
        }
        for (int seat : new int[] {0, 2}) {
            whatRange("seat's what", 4, (orders, what) -> orders.seat(seat, what));
        }
        whatRange("count's what", 12, (orders, what) -> orders.count(what));
    }

    private static void whatRange(String call, int high, Asked asked) {
        range(call, 0, high, ARGUMENT, any -> onFirstFields(9), asked);
    }
}
