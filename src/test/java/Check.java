import java.util.function.LongSupplier;

/** What the project's tests have in common: counting wrong answers, and short ways to run programs. */
final class Check {
    static final int NONE = 1;
    static final int KIND = 2;
    static final int BOUNDS = 3;
    static final int SIZE = 4;
    static final int STORE = 5;
    static final int ZERO = 6;
    static final int LOST = 7;
    static final int LIMIT = 8;
    static final int DEEP = 9;
    static final int STOPPED = 10;
    static final long LOST_BITS = 0x7ff8000000000000L;

    private static int done = 0;
    private static int wrong = 0;
    private static String sentence = "";
    private static int doneBefore = -1;

    private Check() {
    }

    static void same(String what, long got, long want) {
        done++;
        if (got != want) {
            wrong++;
            if (wrong <= 50) {
                System.out.println(sentence + what + " answered " + got + ", due is " + want);
            }
        }
    }

    /** What is looked at from here on is about this sentence; one without anything looked at is wrong. */
    static void about(String text) {
        endSentence();
        sentence = "\"" + text + "\" ";
        doneBefore = done;
    }

    private static void endSentence() {
        if (done == doneBefore) {
            wrong++;
            System.out.println(sentence + "has no test");
        }
    }

    static void bits(String what, long got, double want) {
        same(what, got, Double.doubleToLongBits(want));
    }

    static void that(String what, boolean holds) {
        same(what, holds ? 1 : 0, 1);
    }

    static void fails(String what, Class<? extends RuntimeException> due, LongSupplier call) {
        String got = "nothing";
        try {
            call.getAsLong();
        } catch (RuntimeException e) {
            got = e.getClass().getName();
        }
        that(what + " throws " + due.getName() + ", not " + got, got.equals(due.getName()));
    }

    static int wrongs() {
        return wrong;
    }

    static void end() {
        endSentence();
        System.out.println(done + " answers looked at, " + wrong + " not as due");
        if (wrong != 0 || done == 0) {
            System.exit(1);
        }
    }

    /** The orders, four numbers each, in a new controller. */
    static RobotCell cell(int... orders) {
        return more(new RobotCell(), orders);
    }

    static RobotCell more(RobotCell cell, int... orders) {
        for (int i = 0; i + 3 < orders.length; i += 4) {
            cell.order(orders[i], orders[i + 1], orders[i + 2], orders[i + 3]);
        }
        return cell;
    }

    /** New orders in place of those that are there; what running them answers. */
    static int again(RobotCell cell, int... orders) {
        cell.clear();
        more(cell, orders);
        return cell.run(20000);
    }

    static void number(RobotCell cell, int r, long value) {
        cell.number(r, (int) (value >> 32), (int) value);
    }

    /** Puts a fraction into measure r; n 15 is used on the way. */
    static void measure(RobotCell cell, int r, double value) {
        number(cell, 15, Double.doubleToRawLongBits(value));
        again(cell, 34, r, 15, 1);
    }

    /** The program is run in a new controller: what it answers, and which order failed. */
    static void outcome(String what, int want, int at, int... orders) {
        RobotCell cell = cell(orders);
        same(what + ": run", cell.run(20000), want);
        same(what + ": fault(0)", cell.fault(0), at);
    }
}
