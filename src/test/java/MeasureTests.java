import java.math.BigDecimal;
import java.math.BigInteger;
import java.math.RoundingMode;
import java.util.Random;

/** The orders on measures (24 to 34, and the 32 bit rows) against what the Java machine itself works out. */
public final class MeasureTests {
    private static final Random RANDOM = new Random(20261118);
    private static RobotCell cell = null;
    private static int calls = 0;

    private static final long[] EDGES = {
        0L, 1L, 2L, 3L, 0x000fffffffffffffL, 0x0010000000000000L, 0x0010000000000001L, 0x001fffffffffffffL,
        0x0020000000000000L, 0x7fefffffffffffffL, 0x7feffffffffffffeL, 0x7fe0000000000000L, 0x7ff0000000000000L,
        0x7ff8000000000000L, 0x7ff0000000000001L, 0x7fffffffffffffffL, 0x3ff0000000000000L, 0x3fefffffffffffffL,
        0x3ff0000000000001L, 0x3fe0000000000000L, 0x3fe0000000000001L, 0x3fdfffffffffffffL, 0x3ff8000000000000L,
        0x4004000000000000L, 0x400c000000000000L, 0x4330000000000000L, 0x4330000000000001L, 0x432fffffffffffffL,
        0x4340000000000000L, 0x43e0000000000000L, 0x43dfffffffffffffL, 0x41dfffffffc00000L, 0x41dfffffffe00000L,
        0x41e0000000000000L, 0x47efffffe0000000L, 0x47efffffefffffffL, 0x47effffff0000000L, 0x47f0000000000000L,
        0x3810000000000000L, 0x380fffffe0000000L, 0x380fffffffffffffL, 0x36a0000000000000L, 0x3690000000000000L,
        0x3690000000000001L, 0x368fffffffffffffL, 0x36b8000000000000L, 0x4059000000000000L, 0x4076800000000000L,
        0x3fd0000000000000L, 0x3fe8000000000000L, 0x5fe0000000000000L, 0x1ff0000000000000L, 0x2000000000000000L
    };

    private MeasureTests() {
    }

    public static void main(String[] args) {
        for (long x : EDGES) {
            for (long y : EDGES) {
                all(x, y);
                all(x ^ Long.MIN_VALUE, y);
                all(x, y ^ Long.MIN_VALUE);
                all(x ^ Long.MIN_VALUE, y ^ Long.MIN_VALUE);
            }
        }
        for (int i = 0; i < 60000; i++) {
            long x = any();
            all(x, RANDOM.nextInt(3) == 0 ? near(x) : any());
        }
        for (int i = 0; i < 4000; i++) {
            scaling(any(), RANDOM.nextInt(5000) - 2500);
            wholes(RANDOM.nextLong() >> RANDOM.nextInt(64));
            setting(RANDOM.nextInt() >> RANDOM.nextInt(32), RANDOM.nextInt() >> RANDOM.nextInt(32));
        }
        edgesOfWholes();
        Check.end();
    }

    private static long any() {
        switch (RANDOM.nextInt(8)) {
            case 0:
                return EDGES[RANDOM.nextInt(EDGES.length)] ^ (RANDOM.nextBoolean() ? Long.MIN_VALUE : 0);
            case 1:
                return RANDOM.nextLong();
            case 2:
                return RANDOM.nextLong() & 0x800fffffffffffffL;
            case 3:
                return Double.doubleToLongBits(RANDOM.nextInt(4001) - 2000) + RANDOM.nextInt(3);
            case 4:
                return Double.doubleToLongBits((RANDOM.nextInt(801) - 400) / 8.0);
            case 5:
                return Double.doubleToLongBits((float) RANDOM.nextGaussian() * Math.pow(2, RANDOM.nextInt(300) - 150));
            case 6:
                return Double.doubleToLongBits(Long.MAX_VALUE >> RANDOM.nextInt(63)) + RANDOM.nextInt(5) - 2;
            default:
                return Double.doubleToLongBits(RANDOM.nextGaussian() * 100);
        }
    }

    private static long near(long x) {
        return (x ^ (RANDOM.nextBoolean() ? Long.MIN_VALUE : 0)) + ((long) RANDOM.nextInt(5) - 2 << RANDOM.nextInt(56));
    }

    private static RobotCell fresh() {
        // Only 512 calls of one controller are promised.
        if (cell == null || calls > 300) {
            cell = Check.cell(34, 1, 1, 1, 34, 2, 2, 1, 34, 0, 0, 1);
            addOrders(cell);
            calls = 140;
        }
        return cell;
    }

    /** Behind the first three: results into the log, one behind the other. */
    private static void addOrders(RobotCell x) {
        for (int operation = 25; operation <= 29; operation++) {
            Check.more(x, operation, 4, 1, 2, 21, 4, 0, 0);
        }
        for (int which = 0; which < 16; which++) {
            Check.more(x, 30, 4, 1, which + 32, 21, 4, 0, 0);
        }
        for (int which = 0; which < 8; which++) {
            Check.more(x, 46, 0, 0, 0, 34, 4, 0, 1, 31, 4, 1, 2 + 16 * which + 128, 21, 4, 0, 0);
        }
        for (int which = 0; which < 8; which++) {
            Check.more(x, 32, 4, 1, 2 + 16 * which, 20, 4, 0, 0);
        }
        for (int which = 3; which < 8; which++) {
            Check.more(x, 33, 4, 1, which + 8, 20, 4, 0, 0);
        }
        for (int which = 0; which < 3; which++) {
            // A fault leaves n 4 as it was, and n 5 tells of it.
            Check.more(x, 1, 4, 0, 77, 1, 5, 0, 0, 16, 5, 150 + 2 * which, 0, 20, 4, 0, 0, 20, 5, 0, 0);
        }
        Check.more(x, 1, 6, 0, 1, 40, 6, 6, 6, 70, 1, 6, 7, 48 + 6, 4, 6, 7, 21, 4, 0, 0);
        Check.more(x, 13, 6, 255, 0);
        int orders = x.order(0, 0, 0, 0);
        while (orders < 150) {
            orders = x.order(0, 0, 0, 0);
        }
        Check.more(x, 33, 4, 1, 0, 0, 0, 0, 0, 33, 4, 1, 1, 0, 0, 0, 0, 33, 4, 1, 2, 0, 0, 0, 0);
    }

    private static void all(long xBits, long yBits) {
        RobotCell r = fresh();
        long aBits = RANDOM.nextBoolean() ? any() : yBits;
        Check.number(r, 0, aBits);
        Check.number(r, 1, xBits);
        Check.number(r, 2, yBits);
        int at = r.logs();
        // The log keeps 200: a new controller's log is used up after two of these runs.
        if (at > 100) {
            cell = null;
            all(xBits, yBits);
            return;
        }
        String what = Long.toHexString(xBits) + " " + Long.toHexString(yBits) + " " + Long.toHexString(aBits);
        int outcome = r.run(20000);
        if (outcome != 0) {
            Check.same(what + " run", outcome, 0);
            return;
        }
        calls += 4;
        compare(what, r, at, expected(xBits, yBits, aBits));
    }

    private static void compare(String what, RobotCell r, int at, long[] want) {
        for (int i = 0; i < want.length; i++) {
            if (r.logged(at + i) != want[i]) {
                Check.same(what + " result " + i, r.logged(at + i), want[i]);
            }
        }
        Check.same(what + " results", r.logs() - at, want.length);
    }

    private static long[] expected(long xBits, long yBits, long aBits) {
        double x = Double.longBitsToDouble(xBits);
        double y = Double.longBitsToDouble(yBits);
        double a = Double.longBitsToDouble(aBits);
        double[] measures = {
            x + y, x - y, x * y, x / y, x % y,
            Math.abs(x), Math.floor(x), Math.ceil(x), Math.rint(x), Math.signum(x), Math.sqrt(x), Math.ulp(x),
            Math.nextUp(x), Math.nextDown(x), -x, Math.getExponent(x), (double) (float) x, x, x, x, x,
            Math.max(x, y), Math.min(x, y), StrictMath.copySign(x, Double.isNaN(y) ? 1 : y), x * y + a,
            Integer.signum(Double.compare(x, y)), Math.scalb(x, (int) Math.max(-3000, Math.min(3000, yBits))),
            Double.isNaN(x) ? y : Double.isNaN(y) ? x : (x + y) / 2, x
        };
        boolean[] tests = {x < y, x <= y, x > y, x >= y, x == y, x != y, x != y, x != y};
        long[] numbers = {
            Double.doubleToLongBits(x), Float.floatToIntBits((float) x), Double.isNaN(x) ? 1 : 0, 0, 0,
            Double.isNaN(x) ? 77 : (long) x, Double.isNaN(x) ? 7 : 0,
            Double.isNaN(x) ? 77 : (int) x, Double.isNaN(x) ? 7 : 0,
            Double.isNaN(x) ? 77 : Math.round(x), Double.isNaN(x) ? 7 : 0,
            Double.doubleToLongBits((float) x)
        };
        long[] all = new long[measures.length + tests.length + numbers.length];
        int n = 0;
        for (double m : measures) {
            all[n++] = Double.doubleToLongBits(m);
        }
        for (boolean t : tests) {
            all[n++] = t ? 1 : 0;
        }
        for (long k : numbers) {
            all[n++] = k;
        }
        return all;
    }

    private static void scaling(long xBits, int by) {
        RobotCell r = Check.cell(34, 1, 1, 1, 31, 3, 1, 2 + 16 * 5);
        Check.number(r, 1, xBits);
        Check.number(r, 2, by);
        r.run(10);
        Check.bits("scaled " + Long.toHexString(xBits) + " by " + by, r.bits(3), scaled(xBits, by));
        Check.number(r, 2, by < 0 ? Long.MIN_VALUE + by + 2500 : Long.MAX_VALUE - by);
        r.run(10);
        Check.bits("scaled by far", r.bits(3), scaled(xBits, by < 0 ? -3000 : 3000));
    }

    /** By great numbers, so that nothing is rounded but the end. */
    private static double scaled(long xBits, int by) {
        double x = Double.longBitsToDouble(xBits);
        if (Double.isNaN(x) || Double.isInfinite(x) || x == 0) {
            return x;
        }
        BigDecimal power = new BigDecimal(BigInteger.ONE.shiftLeft(Math.abs(by)));
        BigDecimal exact = new BigDecimal(x);
        BigDecimal result = by >= 0 ? exact.multiply(power) : null;
        if (result == null) {
            // Divided by a power of 2, a binary fraction comes out even after so many places.
            result = exact.divide(power, exact.scale() + Math.abs(by), RoundingMode.UNNECESSARY);
        }
        double rounded = result.doubleValue();
        return rounded == 0 ? Math.copySign(0.0, x) : rounded;
    }

    private static void wholes(long n) {
        RobotCell r = Check.cell(34, 1, 1, 0, 34, 2, 1, 3, 34, 3, 1, 2, 34, 4, 1, 1, 34, 5, 1, 4 + 3);
        Check.number(r, 1, n);
        r.run(10);
        Check.bits("TOM 0 " + n, r.bits(1), (double) n);
        Check.bits("TOM 3 " + n, r.bits(2), (double) (float) n);
        Check.bits("TOM 2 " + n, r.bits(3), (double) Float.intBitsToFloat((int) n));
        Check.bits("TOM 1 " + n, r.bits(4), Double.longBitsToDouble(n));
        Check.bits("TOM 7 " + n, r.bits(5), (double) (float) n);
    }

    private static void edgesOfWholes() {
        for (int shift = 0; shift < 64; shift++) {
            for (int more = -2; more <= 2; more++) {
                wholes((1L << shift) + more);
                wholes(-(1L << shift) + more);
                wholes((1L << shift) + (more + 0L << Math.max(0, shift - 24)));
                wholes((1L << shift) + (more + 0L << Math.max(0, shift - 25)) + 1);
                wholes((1L << shift) + (more + 0L << Math.max(0, shift - 53)));
            }
        }
        wholes(Long.MIN_VALUE);
        wholes(Long.MAX_VALUE);
        for (int b = -3; b < 4; b++) {
            for (int c = -3; c < 4; c++) {
                setting(b, c);
            }
            setting(Integer.MIN_VALUE, b);
            setting(b, Integer.MAX_VALUE);
        }
    }

    private static void setting(int b, int c) {
        RobotCell r = Check.cell(24, 1, b, c);
        r.run(10);
        Check.bits("MSET " + b + " / " + c, r.bits(1), (double) b / (double) c);
    }
}
