import java.util.Random;

/** All promises: long runs of calls, each answer compared with that of the model. */
public final class RandomRunsTest {
    private static final int RUNS = 400;
    private static final int CALLS = 512;
    private static final int[] EXTREMES = {Integer.MIN_VALUE, Integer.MAX_VALUE, -2, 1 << 28, -(1 << 29), 613566757};
    private static final String LETTERS = "0123456789hms-;:hms;x!~";

    private final Random random;
    private final FogOrders orders = new FogOrders();
    private final Model model = new Model();
    private final String name;
    private int calls = 0;

    private RandomRunsTest(int seed) {
        random = new Random(seed);
        name = "run " + seed + ", call ";
    }

    public static void main(String[] args) {
        for (int seed = 0; seed < RUNS; seed++) {
            new RandomRunsTest(seed).run(seed % 4);
        }
        Check.end("RandomRunsTest");
    }

    /** At every temper other calls are the frequent ones. */
    private void run(int temper) {
        while (calls < CALLS - 20) {
            int dice = random.nextInt(100);
            if (dice < 12) {
                armyCalls();
            } else if (dice < 55) {
                orderCall();
            } else if (dice < 63) {
                compare("open()", orders::open, model::open);
            } else if (dice < 72) {
                textCalls(temper);
            } else if (dice < 80) {
                stateCall();
            } else if (dice < 92) {
                lookCall();
            } else if (temper != 0) {
                compare("digest()", orders::digest, model::digest);
            }
        }
        compare("digest()", orders::digest, model::digest);
    }

    private void compare(String call, Check.Call made, Check.Call due) {
        calls++;
        String got = answer(made);
        String want = answer(due);
        Check.note(got.equals(want), name + calls + ": " + call + " answered " + got + ", due is " + want);
    }

    private static String answer(Check.Call call) {
        try {
            return String.valueOf(call.answer());
        } catch (RuntimeException e) {
            return e.getClass().getSimpleName();
        }
    }

    /** Mostly a number from 0 to most, sometimes one beside it. */
    private int number(int most) {
        int dice = random.nextInt(60);
        if (dice == 0) {
            return EXTREMES[random.nextInt(EXTREMES.length)];
        }
        return dice < 3 ? random.nextInt(most + 3) - 1 : random.nextInt(most + 1);
    }

    private int someArmy() {
        return number(Math.max(0, model.count(0) - 1));
    }

    private void armyCalls() {
        int seat = number(2);
        int field = number(11);
        int army = someArmy();
        if (random.nextInt(6) == 0) {
            compare("drop(" + army + ")", () -> orders.drop(army), () -> model.drop(army));
        } else {
            compare("army(" + seat + ", " + field + ")",
                    () -> orders.army(seat, field), () -> model.army(seat, field));
        }
    }

    private void orderCall() {
        int army = someArmy();
        int dice = random.nextInt(8);
        if (dice == 0) {
            compare("hold(" + army + ")", () -> orders.hold(army), () -> model.hold(army));
        } else if (dice < 4) {
            int to = goal(army);
            compare("move(" + army + ", " + to + ")", () -> orders.move(army, to), () -> model.move(army, to));
        } else {
            supportCall(army);
        }
    }

    /** Mostly a neighbour of the army's field. */
    private int goal(int army) {
        int any = number(11);
        if (army < 0 || army >= model.count(0) || random.nextInt(15) == 0) {
            return any;
        }
        Object[] near = Model.neighbours(model.armyOf(army, 1)).toArray();
        return (Integer) near[random.nextInt(near.length)];
    }

    /** Mostly a support of an order that another army has. */
    private void supportCall(int army) {
        int other = random.nextInt(Math.max(1, model.count(0)));
        boolean meant = other < model.count(0) && random.nextInt(10) != 0;
        int from = meant ? model.armyOf(other, 1) : goal(army);
        int to = meant && model.armyOf(other, 2) == 1 ? model.armyOf(other, 3) : meant ? from : goal(army);
        compare("support(" + army + ", " + from + ", " + to + ")",
                () -> orders.support(army, from, to), () -> model.support(army, from, to));
    }

    private void textCalls(int temper) {
        int dice = random.nextInt(10);
        if (dice == 0) {
            compare("clearBuffer()", orders::clearBuffer, model::clearBuffer);
        } else if (dice < 3) {
            int code = number(140);
            compare("append(" + code + ")", () -> orders.append(code), () -> model.append(code));
        } else if (dice < 5) {
            type(temper == 1 ? random.nextInt(30) : random.nextInt(4));
        } else {
            compare("orders()", orders::orders, model::orders);
            compare("clearBuffer()", orders::clearBuffer, model::clearBuffer);
            for (int parts = random.nextInt(3); parts >= 0; parts--) {
                append(part());
                append(parts > 0 ? ";" : "");
            }
        }
        compare("firstError()", orders::firstError, model::firstError);
        compare("orders()", orders::orders, model::orders);
    }

    private void type(int length) {
        StringBuilder text = new StringBuilder();
        for (int i = 0; i < length; i++) {
            text.append(LETTERS.charAt(random.nextInt(LETTERS.length())));
        }
        append(text.toString());
    }

    private void append(String text) {
        for (int i = 0; i < text.length() && calls < CALLS - 10; i++) {
            int code = text.charAt(i);
            compare("append(" + code + ")", () -> orders.append(code), () -> model.append(code));
        }
    }

    private String part() {
        int army = random.nextInt(9);
        int kind = random.nextInt(3);
        int to = model.count(0) > army ? goal(army) : random.nextInt(12);
        Object[] near = Model.neighbours(Math.floorMod(to, 12)).toArray();
        int from = random.nextInt(3) == 0 ? to : (Integer) near[random.nextInt(near.length)];
        return kind == 0 ? army + "h" : kind == 1 ? army + "m" + to : army + "s" + from + "-" + to;
    }

    private void stateCall() {
        int dice = random.nextInt(10);
        if (dice < 6) {
            compare("undo()", orders::undo, model::undo);
        } else if (dice < 8) {
            compare("keep()", orders::keep, model::keep);
        } else {
            compare("restore()", orders::restore, model::restore);
        }
    }

    private void lookCall() {
        int army = someArmy();
        int field = number(11);
        int seat = number(2);
        int what = number(6);
        switch (random.nextInt(9)) {
            case 0 -> compare("armyOf(" + army + ", " + what + ")",
                    () -> orders.armyOf(army, what), () -> model.armyOf(army, what));
            case 1 -> compare("field(" + field + ", " + what + ")",
                    () -> orders.field(field, what), () -> model.field(field, what));
            case 2 -> compare("seat(" + seat + ", " + what + ")",
                    () -> orders.seat(seat, what), () -> model.seat(seat, what));
            case 3 -> countCall();
            case 4 -> compare("ifOpened(" + army + ", " + what + ")",
                    () -> orders.ifOpened(army, what), () -> model.ifOpened(army, what));
            case 5 -> compare("canReach(" + army + ")", () -> orders.canReach(army), () -> model.canReach(army));
            case 6 -> compare("danger()", orders::danger, model::danger);
            case 7 -> compare("ifYear(" + seat + ")", () -> orders.ifYear(seat), () -> model.ifYear(seat));
            default -> compare("success() bits", () -> Double.doubleToLongBits(orders.success()),
                    () -> Double.doubleToLongBits(model.success()));
        }
    }

    private void countCall() {
        int what = number(12);
        compare("count(" + what + ")", () -> orders.count(what), () -> model.count(what));
    }
}
