/** Counts the checks of one test program, and prints those that are wrong. */
final class Check {
    interface Call {
        long answer();
    }

    private static int right = 0;
    private static int wrong = 0;

    private Check() {
    }

    static void due(String call, long got, long want) {
        note(got == want, call + " answered " + got + ", due is " + want);
    }

    static void dueShare(String call, double got, double want) {
        note(Double.doubleToLongBits(got) == Double.doubleToLongBits(want),
                call + " answered " + got + ", due is " + want);
    }

    static void note(boolean isRight, String what) {
        if (isRight) {
            right++;
        } else {
            wrong++;
            System.out.println("wrong: " + what);
        }
    }

    static void outOfBounds(FogOrders orders, String call, Call done) {
        refused(orders, call, done, "IndexOutOfBoundsException");
    }

    static void illegalArgument(FogOrders orders, String call, Call done) {
        refused(orders, call, done, "IllegalArgumentException");
    }

    static void illegalState(FogOrders orders, String call, Call done) {
        refused(orders, call, done, "IllegalStateException");
    }

    /** The call must throw just this exception, and leave all as it was. */
    static void refused(FogOrders orders, String call, Call done, String want) {
        long before = orders.digest();
        String got = "answered";
        try {
            got = "answered " + done.answer();
        } catch (RuntimeException e) {
            got = e.getClass().getSimpleName();
        }
        note(got.equals(want), call + " " + got + ", due is " + want);
        due(call + " leaves the digest", orders.digest(), before);
    }

    /** The last line of a test program: how many checks were right and wrong. */
    static void end(String test) {
        System.out.println(test + ": " + right + " checks right, " + wrong + " wrong");
        if (wrong != 0 || right == 0) {
            System.exit(1);
        }
    }
}
