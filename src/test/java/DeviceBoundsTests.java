/** Section 3 of the document, DEVICES, and orders 88 to 92: a test for each sentence's edges. */
public final class DeviceBoundsTests extends Bounds {
    private static final double TINIEST = Double.MIN_VALUE;
    private static final double GREATEST = Double.MAX_VALUE;
    private static final int AXIS = 0;
    private static final int RAIL = 1;
    private static final int WRIST = 2;
    private static final int PROBE = 3;

    private DeviceBoundsTests() {
    }

    public static void main(String[] args) {
        newDevices();
        goFaults();
        telling();
        restAndSenseFaults();
        axesAtFirst();
        railsAtFirst();
        wristsAtFirst();
        probesAtFirst();
        axesLost();
        axesLimit();
        longWays();
        shortWays();
        wholeTicks();
        afterAWay();
        railsGo();
        railsLimit();
        wristsGo();
        wristsFarAway();
        wristsToInfinity();
        probesGoNowhere();
        restingAxes();
        restingRails();
        restingWrists();
        lastFiveReadings();
        readingsOf32Bits();
        means();
        sumsFromTheEldestOn();
        lostReadings();
        noReadings();
        spreads();
        howManyReadings();
        Check.end();
    }

    /** A controller with a new device in p 1. */
    private static RobotCell with(int which) {
        return after(DEVICE, 1, 0, which);
    }

    private static void told(RobotCell x, double at, double span, double rank, double travelled, double moves,
            double speed) {
        double[] want = {at, span, rank, travelled, moves, speed, 0, 0};
        String[] names = {"AT", "SPAN", "RANK", "TRAVELLED", "MOVES", "SPEED", "6", "7"};
        for (int what = 0; what < 8; what++) {
            ends(x, 0, TELL, 9, 1, what);
            Check.bits(names[what], x.bits(9), want[what]);
        }
    }

    private static void at(RobotCell x, double want) {
        ends(x, 0, TELL, 9, 1, 0);
        Check.bits("AT", x.bits(9), want);
    }

    private static void goes(RobotCell x, double to, long ticks) {
        Check.measure(x, 2, to);
        x.number(3, -1, -1);
        ends(x, 0, GO, 3, 1, 2);
        Check.same("TICKS to " + to, x.told(3), ticks);
    }

    /** The way is refused: n a and all of the device stay. */
    private static void stays(RobotCell x, int fault, double to) {
        double[] before = new double[6];
        for (int what = 0; what < 6; what++) {
            ends(x, 0, TELL, 9, 1, what);
            before[what] = Double.longBitsToDouble(x.bits(9));
        }
        Check.measure(x, 2, to);
        Check.number(x, 3, 77);
        ends(x, fault, GO, 3, 1, 2);
        Check.same("no TICKS to " + to, x.told(3), 77);
        told(x, before[0], before[1], before[2], before[3], before[4], before[5]);
    }

    private static void senses(RobotCell x, double... readings) {
        for (double reading : readings) {
            Check.measure(x, 2, reading);
            ends(x, 0, SENSE, 1, 2, 0);
        }
    }

    private static void newDevices() {
        sentence("88 DEVICE: p a is a new one: by the lowest 2 bits of c 0 AXIS, 1 RAIL, 2 WRIST, 3 PROBE.");
        for (int more : new int[] {0, 4, -4, 256, Integer.MIN_VALUE, 1 << 30}) {
            for (int which = 0; which < 4; which++) {
                RobotCell x = with(which + more);
                Check.same("DEVICE " + (which + more), x.slot(1, 0), 13 + which);
                ends(x, 0, DEVICE, 2, 0, which);
                Check.same("a new one", x.slot(2, 2), 2);
            }
        }
    }

    private static void goFaults() {
        sentence("89 GO: p b, a DEVICE, goes to m c: n a is how many TICKS.");
        refuses(measures(NO_NUMBER), Check.NONE, GO, 3, 1, 1);
        for (int kind = 1; kind <= 12; kind++) {
            RobotCell x = after(ALL_KINDS);
            ends(x, 0, MSET, 1, 0, 0);
            refuses(x, Check.KIND, GO, 3, kind, 1);
        }
        for (int which = 0; which < 3; which++) {
            goes(with(which), 1, which == 0 ? 5 : 3);
        }
    }

    private static void telling() {
        sentence("90 TELL: m a is of p b, a DEVICE, by the lowest 3 bits of c: .. else 0.");
        for (int more : new int[] {0, 8, -8, Integer.MIN_VALUE}) {
            RobotCell x = with(RAIL);
            goes(x, 100, 30);
            double[] want = {100, 1000, 4, 100, 1, 40, 0, 0};
            for (int what = 0; what < 8; what++) {
                Check.measure(x, 9, -1);
                ends(x, 0, TELL, 9, 1, what + more);
                Check.bits("TELL " + (what + more), x.bits(9), want[what]);
            }
        }
        for (int what = 0; what < 8; what++) {
            refuses(new RobotCell(), Check.NONE, TELL, 3, 1, what);
            for (int kind = 1; kind <= 12; kind++) {
                refuses(after(ALL_KINDS), Check.KIND, TELL, 3, kind, what);
            }
        }
    }

    private static void restAndSenseFaults() {
        sentence("91 REST: p a, an AXIS.");
        refuses(new RobotCell(), Check.NONE, REST, 1, 0, 0);
        for (int kind = 1; kind <= 16; kind++) {
            RobotCell x = after(ALL_KINDS);
            boolean fits = kind >= 13 && kind <= 15;
            Check.same("REST of kind " + kind, Check.again(x, REST, kind, 0, 0), fits ? 0 : Check.KIND);
        }
        sentence("92 SENSE: p a, a PROBE, has the reading m b.");
        refuses(new RobotCell(), Check.NONE, SENSE, 1, 0, 0);
        for (int kind = 1; kind <= 16; kind++) {
            RobotCell x = after(ALL_KINDS);
            Check.same("SENSE of kind " + kind, Check.again(x, SENSE, kind, 0, 0), kind == 16 ? 0 : Check.KIND);
        }
    }

    private static void axesAtFirst() {
        sentence("An AXIS is AT 0, its SPEED 10, its SPAN 100, RANK 3.");
        told(with(AXIS), 0, 100, 3, 0, 0, 10);
    }

    private static void railsAtFirst() {
        sentence("A RAIL: SPEED 40, SPAN ten times an AXIS's, RANK 1 more than one's.");
        told(with(RAIL), 0, 1000, 4, 0, 0, 40);
    }

    private static void wristsAtFirst() {
        sentence("A WRIST: SPEED as a RAIL's, SPAN 360, RANK twice a RAIL's.");
        told(with(WRIST), 0, 360, 8, 0, 0, 40);
    }

    private static void probesAtFirst() {
        sentence("A PROBE: SPEED 0, SPAN 1, RANK 1.");
        told(with(PROBE), NO_NUMBER, 1, 1, 0, 0, 0);
    }

    private static void axesLost() {
        sentence("An AXIS goes to x: LOST");
        stays(with(AXIS), Check.LOST, NO_NUMBER);
        RobotCell x = with(AXIS);
        goes(x, 7, 12);
        stays(x, Check.LOST, NO_NUMBER);
    }

    private static void axesLimit() {
        sentence("LIMIT, if the magnitude of x is above its SPAN");
        goes(with(AXIS), 100, 105);
        goes(with(AXIS), -100, 105);
        stays(with(AXIS), Check.LIMIT, Math.nextUp(100.0));
        stays(with(AXIS), Check.LIMIT, Math.nextDown(-100.0));
        stays(with(AXIS), Check.LIMIT, INFINITY);
        stays(with(AXIS), Check.LIMIT, -INFINITY);
        stays(with(AXIS), Check.LIMIT, GREATEST);
        RobotCell x = with(AXIS);
        goes(x, 100, 105);
        stays(x, Check.LIMIT, 101);
        goes(x, -100, 205);
        told(x, -100, 100, 3, 300, 2, 10);
    }

    private static void longWays() {
        sentence("with d the magnitude of x - AT and s its SPEED: T is d / s + 1/2, if d is at least s / 2");
        goes(with(AXIS), 5, 10);
        goes(with(AXIS), -5, 10);
        goes(with(AXIS), 20, 25);
        goes(with(AXIS), 50, 55);
        goes(with(RAIL), 20, 10);
        goes(with(RAIL), 1000, 255);
        goes(with(WRIST), 359, 95);
        RobotCell x = with(AXIS);
        goes(x, 10, 15);
        goes(x, 5, 10);
        goes(x, -45, 55);
    }

    private static void shortWays() {
        sentence("else 2 times the root of d / (2 s)");
        goes(with(AXIS), 1, 5);
        goes(with(AXIS), -1, 5);
        goes(with(AXIS), 0.2, 2);
        goes(with(AXIS), Math.nextDown(5.0), 10);
        goes(with(AXIS), 4.05, 9);
        goes(with(AXIS), Math.nextUp(4.05), 10);
        goes(with(RAIL), 1, 3);
        goes(with(RAIL), 0.125, 1);
        goes(with(WRIST), 3.25, 5);
        RobotCell x = with(AXIS);
        goes(x, 0.0, 0);
        goes(x, -0.0, 0);
        told(x, -0.0, 100, 3, 0, 2, 10);
        goes(with(AXIS), TINIEST, 0);
        goes(with(AXIS), 40 * TINIEST, 1);
    }

    private static void wholeTicks() {
        sentence("TICKS are 10 T, the whole one not below");
        goes(with(AXIS), 6, 11);
        goes(with(AXIS), 6.000001, 12);
        goes(with(AXIS), 5.999999, 11);
        goes(with(AXIS), 5.5, 11);
        goes(with(AXIS), 99.5, 105);
        goes(with(AXIS), 0.05, 1);
        goes(with(AXIS), 0.050001, 2);
    }

    private static void afterAWay() {
        sentence("AT is x, TRAVELLED more by d, MOVES by 1.");
        RobotCell x = with(AXIS);
        goes(x, 0.1, 2);
        goes(x, 0.3, 2);
        goes(x, -3, 9);
        told(x, -3, 100, 3, 0.1 + (0.3 - 0.1) + 3.3, 3, 10);
        goes(x, -3, 0);
        told(x, -3, 100, 3, 0.1 + (0.3 - 0.1) + 3.3, 4, 10);
    }

    private static void railsGo() {
        sentence("A RAIL goes to 8 x, the nearest whole one (of two the even one), by 8, as an AXIS does");
        double[][] ways = {{0.0625, 0.0}, {Math.nextUp(0.0625), 0.125}, {0.1875, 0.25}, {0.3125, 0.25}, {-0.0625, -0.0},
            {-0.1875, -0.25}, {1.1, 1.125}, {20, 20}, {-TINIEST, -0.0}, {-0.0, -0.0}, {999.9375, 1000}};
        for (double[] way : ways) {
            RobotCell x = with(RAIL);
            Check.measure(x, 2, way[0]);
            ends(x, 0, GO, 3, 1, 2);
            told(x, way[1], 1000, 4, Math.abs(way[1]), 1, 40);
        }
        stays(with(RAIL), Check.LOST, NO_NUMBER);
        RobotCell x = with(RAIL);
        goes(x, 0.06, 0);
        goes(x, 0.07, 1);
        goes(x, 0.18, 0);
        told(x, 0.125, 1000, 4, 0.125, 3, 40);
    }

    private static void railsLimit() {
        sentence("(LIMIT is of that)");
        RobotCell x = with(RAIL);
        goes(x, 1000.0625, 255);
        at(x, 1000);
        goes(x, -1000.0625, 505);
        at(x, -1000);
        stays(x, Check.LIMIT, Math.nextUp(1000.0625));
        stays(with(RAIL), Check.LIMIT, Math.nextDown(-1000.0625));
        stays(with(RAIL), Check.LIMIT, 1000.125);
        stays(with(RAIL), Check.LIMIT, INFINITY);
        stays(with(RAIL), Check.LIMIT, -INFINITY);
        stays(with(RAIL), Check.LIMIT, GREATEST);
    }

    private static void wristsGo() {
        sentence("A WRIST goes to x less 360 times (x / 360, the whole one not above), as a RAIL does");
        double[][] ways = {{0.0, 0.0}, {-0.0, 0.0}, {360, 0.0}, {-360, 0.0}, {720.5, 0.5}, {-1, 359}, {-359.875, 0.125},
            {359.875, 359.875}, {359.9375, 360}, {Math.nextDown(360.0), 360}, {Math.nextUp(360.0), 0.0}, {-1e-20, 360},
            {-0.0625, 360}, {-0.1, 359.875}, {1.1, 1.125}, {3600000, 0.0}, {-TINIEST, -0.0}};
        for (double[] way : ways) {
            RobotCell x = with(WRIST);
            Check.measure(x, 2, way[0]);
            ends(x, 0, GO, 3, 1, 2);
            told(x, way[1], 360, 8, Math.abs(way[1]), 1, 40);
        }
    }

    private static void wristsFarAway() {
        sentence("A WRIST goes to x less 360 times (..), as a RAIL does (LIMIT is of that), far away");
        for (double far : new double[] {1e15, 1e16, 1.23456789e18, 1e22, -1e22, 1e100, -1e100, 1e300, GREATEST, -GREATEST,
            0x1p60, 0x1p62, 0x1p63, 0x1.23456789abcdep70}) {
            double turned = far - 360 * Math.floor(far / 360);
            double way = Math.rint(8 * turned) / 8;
            RobotCell x = with(WRIST);
            if (Math.abs(way) > 360) {
                stays(x, Check.LIMIT, far);
            } else {
                Check.measure(x, 2, far);
                ends(x, 0, GO, 3, 1, 2);
                at(x, way);
            }
        }
    }

    private static void wristsToInfinity() {
        sentence("(an infinity: LOST)");
        stays(with(WRIST), Check.LOST, INFINITY);
        stays(with(WRIST), Check.LOST, -INFINITY);
        stays(with(WRIST), Check.LOST, NO_NUMBER);
    }

    private static void probesGoNowhere() {
        sentence("A PROBE goes nowhere: LIMIT (LOST ahead of it).");
        for (double to : new double[] {0.0, -0.0, 1, 0.5, INFINITY, GREATEST}) {
            stays(with(PROBE), Check.LIMIT, to);
        }
        stays(with(PROBE), Check.LOST, NO_NUMBER);
        RobotCell x = with(PROBE);
        senses(x, 3, 4);
        stays(x, Check.LIMIT, 0.5);
    }

    private static void restingAxes() {
        sentence("REST: an AXIS is AT 0");
        RobotCell x = with(AXIS);
        goes(x, -50, 55);
        ends(x, 0, REST, 1, 0, 0);
        told(x, 0.0, 100, 3, 50, 1, 10);
        ends(x, 0, REST, 1, 0, 0);
        told(x, 0.0, 100, 3, 50, 1, 10);
        goes(x, 1, 5);
    }

    private static void restingRails() {
        sentence("a RAIL, too, and MOVES is 1 more");
        RobotCell x = with(RAIL);
        goes(x, -50, 18);
        ends(x, 0, REST, 1, 0, 0);
        told(x, 0.0, 1000, 4, 50, 2, 40);
        ends(x, 0, REST, 1, 0, 0);
        told(x, 0.0, 1000, 4, 50, 3, 40);
    }

    private static void restingWrists() {
        sentence("a WRIST as an AXIS, not as a RAIL, and TRAVELLED is 0.");
        RobotCell x = with(WRIST);
        goes(x, 50, 18);
        ends(x, 0, REST, 1, 0, 0);
        told(x, 0.0, 360, 8, 0.0, 1, 40);
        goes(x, 10, 8);
        told(x, 10, 360, 8, 10, 2, 40);
    }

    private static void lastFiveReadings() {
        sentence("A PROBE keeps the last five readings");
        RobotCell x = with(PROBE);
        double[] means = {32, 24, 56.0 / 3, 15, 12.4, 6.2, 3.2, 2};
        double[] readings = {32, 16, 8, 4, 2, 1, 1, 2};
        double[] spreads = {0, 16, 24, 28, 30, 15, 7, 3};
        for (int i = 0; i < readings.length; i++) {
            senses(x, readings[i]);
            told(x, means[i], 1, 1, spreads[i], i + 1, 0);
        }
    }

    private static void readingsOf32Bits() {
        sentence("each the nearest of 32 bits");
        double[][] readings = {{0.1, 0x1.99999ap-4}, {0x1.ffffffp127, INFINITY}, {0x1.fffffefffffffp127, 0x1.fffffep127},
            {0x1p-150, 0.0}, {0x1.0000000000001p-150, 0x1p-149}, {1 + 0x1p-24, 1}, {1 + 0x1.8p-23, 1 + 0x1p-22},
            {-1e-60, 0.0}, {-GREATEST, -INFINITY}};
        for (double[] one : readings) {
            RobotCell x = with(PROBE);
            senses(x, one[0]);
            at(x, one[1]);
        }
    }

    private static void means() {
        sentence("it is AT the mean of those that aren't LOST: their sum .. by how many they are");
        RobotCell x = with(PROBE);
        senses(x, 1, 2, NO_NUMBER, 7);
        at(x, 10.0 / 3.0);
        RobotCell y = with(PROBE);
        senses(y, INFINITY, 1);
        at(y, INFINITY);
        senses(y, -INFINITY);
        at(y, NO_NUMBER);
        senses(y, 1, 2, 3);
        at(y, -INFINITY);
        senses(y, 4, 5);
        at(y, 3);
        RobotCell z = with(PROBE);
        senses(z, 0x1.fffffep127, 0x1.fffffep127);
        at(z, 0x1.fffffep127);
    }

    private static void sumsFromTheEldestOn() {
        sentence("their sum (from the eldest on, from 0 on)");
        RobotCell x = with(PROBE);
        senses(x, 0x1p100, 1, -0x1p100);
        at(x, 0.0);
        RobotCell y = with(PROBE);
        senses(y, 1, 0x1p100, -0x1p100, 1);
        at(y, 0.25);
        RobotCell z = with(PROBE);
        senses(z, -0.0);
        at(z, 0.0);
        // Beyond five the eldest stands wherever it may: 9 and 8 have gone.
        RobotCell w = with(PROBE);
        senses(w, 9, 8, 1, 0x1p100, 1, -0x1p100, 3);
        at(w, 3.0 / 5);
        RobotCell v = with(PROBE);
        senses(v, 9, 0x1p100, 1, -0x1p100, 1, 1);
        at(v, 2.0 / 5);
        RobotCell u = with(PROBE);
        senses(u, 9, 9, 9, 9, 0x1p100, 1, -0x1p100, 1, 1);
        at(u, 2.0 / 5);
    }

    private static void lostReadings() {
        sentence("those that aren't LOST");
        RobotCell x = with(PROBE);
        senses(x, NO_NUMBER);
        told(x, NO_NUMBER, 1, 1, 0.0, 1, 0);
        senses(x, 5, NO_NUMBER, NO_NUMBER, NO_NUMBER);
        told(x, 5, 1, 1, 0.0, 5, 0);
        senses(x, NO_NUMBER);
        told(x, 5, 1, 1, 0.0, 6, 0);
        senses(x, NO_NUMBER);
        told(x, NO_NUMBER, 1, 1, 0.0, 7, 0);
    }

    private static void noReadings() {
        sentence("LOST, if there are none.");
        at(with(PROBE), NO_NUMBER);
        RobotCell x = with(PROBE);
        senses(x, NO_NUMBER, NO_NUMBER, NO_NUMBER, NO_NUMBER, NO_NUMBER, NO_NUMBER);
        at(x, NO_NUMBER);
    }

    private static void spreads() {
        sentence("TRAVELLED is the greatest less the least of these (0 without)");
        double[][] cases = {{0}, {0, NO_NUMBER}, {0.0, 5}, {8, -3, 5}, {8, -3, NO_NUMBER, 5}, {INFINITY, -INFINITY, INFINITY},
            {NO_NUMBER, INFINITY}, {INFINITY, INFINITY, 0}, {0.0, -0.0}, {0.0, 0.0, -0.0}, {7, 100, 1, 2, 3, 4, 8},
            {0x1.fffffep128, 0x1.fffffep127, -0x1.fffffep127, 1, 1, 1}};
        for (double[] one : cases) {
            // What is due stands first, the readings behind it.
            RobotCell x = with(PROBE);
            senses(x, java.util.Arrays.copyOfRange(one, 1, one.length));
            ends(x, 0, TELL, 9, 1, 3);
            Check.bits("TRAVELLED", x.bits(9), one[0]);
        }
    }

    private static void howManyReadings() {
        sentence("MOVES how many readings it has had, LOST ones, too.");
        RobotCell x = with(PROBE);
        x.number(4, 0, 1000);
        x.number(5, 0, 0);
        ends(x, 0, MSET, 2, 0, 0, REPEAT, 4, 3, 0, END, 0, 0, 0, SENSE, 1, 2, 0);
        senses(x, 1);
        told(x, 1, 1, 1, 0.0, 1001, 0);
    }
}
