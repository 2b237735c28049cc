/**
 * For the tests that go through the document's sentences: the names of its orders, the sentence that
 * is being tested, and short ways to say that an order is refused and leaves all as it was.
 */
abstract class Bounds {
    static final int END = 0;
    static final int SET = 1;
    static final int ADD = 2;
    static final int SUB = 3;
    static final int MUL = 4;
    static final int DIV = 5;
    static final int REM = 6;
    static final int AND = 7;
    static final int XOR = 8;
    static final int LEFT = 9;
    static final int RIGHT = 10;
    static final int LESS = 11;
    static final int SAME = 12;
    static final int SKIP = 13;
    static final int CALL = 14;
    static final int REPEAT = 15;
    static final int TRY = 16;
    static final int SCOPE = 17;
    static final int RAISE = 18;
    static final int AGAIN = 19;
    static final int LOG = 20;
    static final int MLOG = 21;
    static final int MSET = 24;
    static final int MADD = 25;
    static final int MSUB = 26;
    static final int MMUL = 27;
    static final int MDIV = 28;
    static final int MREM = 29;
    static final int MONE = 30;
    static final int MTWO = 31;
    static final int MTEST = 32;
    static final int TON = 33;
    static final int TOM = 34;
    static final int MAKE = 40;
    static final int GRID = 41;
    static final int LENGTH = 42;
    static final int COPY = 43;
    static final int CLONE = 44;
    static final int SORT = 45;
    static final int MOVE = 46;
    static final int DROP = 47;
    static final int LOAD = 48;
    static final int STORE = 64;
    static final int POSE = 80;
    static final int READ = 81;
    static final int WRITE = 82;
    static final int SHIFT = 83;
    static final int APART = 84;
    static final int DEVICE = 88;
    static final int GO = 89;
    static final int TELL = 90;
    static final int REST = 91;
    static final int SENSE = 92;

    static final int ALL_FUEL = 20000;
    static final long LEAST = Long.MIN_VALUE;
    static final long MOST = Long.MAX_VALUE;
    static final double INFINITY = Double.POSITIVE_INFINITY;
    static final double NO_NUMBER = Double.NaN;

    /** Things of every kind, each in the slot of its kind's number but for 16, a PROBE, which is in slot 0. */
    static final int[] ALL_KINDS = {
        SET, 1, 0, 2, MAKE, 1, 1, 1, MAKE, 2, 1, 2, MAKE, 3, 1, 3, MAKE, 4, 1, 4, MAKE, 5, 1, 5, MAKE, 6, 1, 6,
        MAKE, 7, 1, 7, MAKE, 8, 1, 8, MAKE, 9, 1, 9, GRID, 10, 1, 1, POSE, 11, 0, 0, POSE, 12, 0, 1,
        DEVICE, 13, 0, 0, DEVICE, 14, 0, 1, DEVICE, 15, 0, 2, DEVICE, 0, 0, 3
    };

    /** From here on it is this sentence of the document that is tested. */
    static void sentence(String text) {
        Check.about(text);
    }

    /** A controller with these numbers in n 1, n 2, .. */
    static RobotCell numbers(long... values) {
        RobotCell x = new RobotCell();
        for (int i = 0; i < values.length; i++) {
            Check.number(x, i + 1, values[i]);
        }
        return x;
    }

    /** A controller with these measures in m 1, m 2, .. */
    static RobotCell measures(double... values) {
        RobotCell x = new RobotCell();
        for (int i = 0; i < values.length; i++) {
            Check.measure(x, i + 1, values[i]);
        }
        Check.number(x, 15, 0);
        return x;
    }

    static RobotCell after(int... orders) {
        RobotCell x = Check.cell(orders);
        Check.same("what stands ahead is through", x.run(ALL_FUEL), 0);
        return x;
    }

    /** The orders, in place of others, end with this: 0, a fault or STOPPED. */
    static void ends(RobotCell x, int want, int... orders) {
        Check.same(shown(orders) + ": run", Check.again(x, orders), want);
    }

    /** The only order fails with this fault, and all that can be told of the controller is as it was. */
    static void refuses(RobotCell x, int fault, int operation, int a, int b, int c) {
        String what = shown(operation, a, b, c);
        long[] before = state(x);
        Check.same(what + ": run", Check.again(x, operation, a, b, c), fault);
        Check.same(what + ": fault(0)", x.fault(0), 0);
        Check.same(what + ": fault(1)", x.fault(1), 1);
        Check.that(what + ": nothing is changed", java.util.Arrays.equals(before, state(x)));
    }

    static String shown(int... orders) {
        StringBuilder text = new StringBuilder();
        for (int i = 0; i < orders.length && i < 40; i++) {
            text.append(i == 0 ? "" : i % 4 == 0 ? "; " : " ").append(orders[i]);
        }
        return text.append(orders.length > 40 ? " .." : "").toString();
    }

    /** Numbers, measures, what the slots have (two places of each ROW, too) and how long the log is. */
    static long[] state(RobotCell x) {
        long[] all = new long[16 * 7 + 1];
        for (int r = 0; r < 16; r++) {
            int at = 7 * r;
            all[at] = x.told(r);
            all[at + 1] = x.bits(r);
            for (int what = 0; what < 3; what++) {
                all[at + 2 + what] = x.slot(r, what);
            }
            int places = x.slot(r, 1);
            all[at + 5] = places > 0 ? x.place(r, 0) : 0;
            all[at + 6] = places > 1 ? x.place(r, places - 1) : 0;
        }
        all[16 * 7] = x.logs();
        return all;
    }
}
