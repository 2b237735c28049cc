/** Section 2 of the document, orders 24 to 34 on measures: a test for each sentence's edges, by written-out bits. */
public final class MeasureBoundsTests extends Bounds {
    private static final double GREATEST = Double.MAX_VALUE;
    private static final double TINIEST = Double.MIN_VALUE;
    private static final double NORMAL = 0x1p-1022;
    private static final double HALF = 0.5;
    private static final double TWO52 = 4503599627370496.0;

    private MeasureBoundsTests() {
    }

    public static void main(String[] args) {
        setting();
        sums();
        products();
        quotients();
        remainders();
        magnitudes();
        wholesNotAbove();
        wholesNotBelow();
        nearestWholes();
        signs();
        roots();
        steps();
        nextOnes();
        opposites();
        exponents();
        nearestOf32();
        themselves();
        lowestBitsOfMone();
        greaterAndLesser();
        signsOfOthers();
        productsAndSums();
        ranks();
        scaling();
        scalingRoundsOnce();
        halfSums();
        theSeventh();
        bitsOfMtwo();
        tests();
        cutWholes();
        cutWholesOf32();
        halfUps();
        lostNumbers();
        bitsOfMeasures();
        bitsOf32();
        isLost();
        otherNumbers();
        nearestToNumbers();
        measuresOfBits();
        nearestOf32ToNumbers();
        Check.end();
    }

    private static void setting() {
        sentence("24 MSET: m a is b / c, both as measures.");
        int[][] parts = {{1, 3}, {-1, 3}, {0, 5}, {0, -5}, {1, 0}, {-1, 0}, {0, 0}, {Integer.MIN_VALUE, -1},
            {Integer.MAX_VALUE, 1}, {Integer.MIN_VALUE, Integer.MAX_VALUE}};
        double[] wants = {1.0 / 3.0, -1.0 / 3.0, 0.0, -0.0, INFINITY, -INFINITY, NO_NUMBER, 2147483648.0, 2147483647.0,
            -2147483648.0 / 2147483647.0};
        for (int i = 0; i < parts.length; i++) {
            RobotCell x = new RobotCell();
            ends(x, 0, MSET, 1, parts[i][0], parts[i][1]);
            Check.bits("MSET " + parts[i][0] + " " + parts[i][1], x.bits(1), wants[i]);
        }
    }

    private static void gives(int operation, double left, double right, double want) {
        RobotCell x = measures(left, right);
        ends(x, 0, operation, 3, 1, 2);
        Check.bits(operation + " of " + left + ", " + right, x.bits(3), want);
    }

    private static void sums() {
        sentence("25 MADD, 26 MSUB");
        gives(MADD, GREATEST, GREATEST, INFINITY);
        gives(MADD, GREATEST, 1, GREATEST);
        gives(MADD, GREATEST, 0x1p970, INFINITY);
        gives(MADD, GREATEST, 0x1.fffffffffffffp969, GREATEST);
        gives(MADD, 1, 0x1p-53, 1);
        gives(MADD, 1, 0x1.0000000000001p-53, 1 + 0x1p-52);
        gives(MADD, 1 + 0x1p-52, 0x1p-53, 1 + 0x1p-51);
        gives(MADD, 0.0, -0.0, 0.0);
        gives(MADD, -0.0, -0.0, -0.0);
        gives(MADD, 1, -1, 0.0);
        gives(MADD, -1, 1, 0.0);
        gives(MADD, INFINITY, -INFINITY, NO_NUMBER);
        gives(MADD, INFINITY, INFINITY, INFINITY);
        gives(MADD, -INFINITY, GREATEST, -INFINITY);
        gives(MADD, NO_NUMBER, 1, NO_NUMBER);
        gives(MADD, INFINITY, NO_NUMBER, NO_NUMBER);
        gives(MADD, TINIEST, TINIEST, 2 * TINIEST);
        gives(MSUB, NORMAL, TINIEST, NORMAL - TINIEST);
        gives(MSUB, -0.0, 0.0, -0.0);
        gives(MSUB, 0.0, 0.0, 0.0);
        gives(MSUB, 0.0, -0.0, 0.0);
        gives(MSUB, INFINITY, INFINITY, NO_NUMBER);
        gives(MSUB, -INFINITY, INFINITY, -INFINITY);
        gives(MSUB, 1, 0x1p-54, 1);
        gives(MSUB, 1, 0x1.0000000000001p-54, 1 - 0x1p-53);
        gives(MSUB, 1, NO_NUMBER, NO_NUMBER);
    }

    private static void products() {
        sentence("27 MMUL");
        gives(MMUL, GREATEST, 2, INFINITY);
        gives(MMUL, GREATEST, -2, -INFINITY);
        gives(MMUL, TINIEST, HALF, 0.0);
        gives(MMUL, -TINIEST, HALF, -0.0);
        gives(MMUL, 3 * TINIEST, HALF, 2 * TINIEST);
        gives(MMUL, TINIEST, 0.75, TINIEST);
        gives(MMUL, NORMAL, HALF, NORMAL / 2);
        gives(MMUL, 0.0, INFINITY, NO_NUMBER);
        gives(MMUL, -INFINITY, -0.0, NO_NUMBER);
        gives(MMUL, -INFINITY, -1, INFINITY);
        gives(MMUL, 0.0, -1, -0.0);
        gives(MMUL, -0.0, -0.0, 0.0);
        gives(MMUL, NO_NUMBER, 0, NO_NUMBER);
        gives(MMUL, 1 + 0x1p-52, 1 + 0x1p-52, 1 + 0x1p-51);
    }

    private static void quotients() {
        sentence("28 MDIV");
        gives(MDIV, 1, 0.0, INFINITY);
        gives(MDIV, 1, -0.0, -INFINITY);
        gives(MDIV, -1, 0.0, -INFINITY);
        gives(MDIV, 0.0, 0.0, NO_NUMBER);
        gives(MDIV, -0.0, 0.0, NO_NUMBER);
        gives(MDIV, INFINITY, 0.0, INFINITY);
        gives(MDIV, INFINITY, INFINITY, NO_NUMBER);
        gives(MDIV, 1, -INFINITY, -0.0);
        gives(MDIV, 0.0, INFINITY, 0.0);
        gives(MDIV, GREATEST, HALF, INFINITY);
        gives(MDIV, TINIEST, 2, 0.0);
        gives(MDIV, -TINIEST, 2, -0.0);
        gives(MDIV, 1, 3, 0x1.5555555555555p-2);
        gives(MDIV, 2, 3, 0x1.5555555555555p-1);
        gives(MDIV, NO_NUMBER, 1, NO_NUMBER);
        gives(MDIV, 1, NO_NUMBER, NO_NUMBER);
    }

    private static void remainders() {
        sentence("29 MREM (with m b's sign, the quotient cut)");
        gives(MREM, 7, 2, 1);
        gives(MREM, -7, 2, -1);
        gives(MREM, 7, -2, 1);
        gives(MREM, 6, 2, 0.0);
        gives(MREM, -6, 2, -0.0);
        gives(MREM, 5.5, 2, 1.5);
        gives(MREM, 1, 0.0, NO_NUMBER);
        gives(MREM, 1, -0.0, NO_NUMBER);
        gives(MREM, INFINITY, 2, NO_NUMBER);
        gives(MREM, 2, INFINITY, 2);
        gives(MREM, -2, -INFINITY, -2);
        gives(MREM, -0.0, 2, -0.0);
        gives(MREM, 0.0, INFINITY, 0.0);
        gives(MREM, NO_NUMBER, 2, NO_NUMBER);
        gives(MREM, 2, NO_NUMBER, NO_NUMBER);
        gives(MREM, GREATEST, TINIEST, 0.0);
        gives(MREM, GREATEST, 3, 2);
        gives(MREM, NORMAL, 3 * TINIEST, TINIEST);
        gives(MREM, 1, 1 + 0x1p-52, 1);
        gives(MREM, 2, 2, 0.0);
        gives(MREM, -2, 2, -0.0);
        gives(MREM, TINIEST, TINIEST, 0.0);
        gives(MREM, 1e20, 7, 2);
        gives(MREM, -0x1p200, 7, -4);
    }

    private static void one(int which, double of, double want) {
        RobotCell x = measures(of);
        ends(x, 0, MONE, 2, 1, which);
        Check.bits("MONE " + which + " of " + of, x.bits(2), want);
    }

    private static void magnitudes() {
        sentence("30 MONE: 0 its magnitude");
        one(0, -1, 1);
        one(0, -0.0, 0.0);
        one(0, 0.0, 0.0);
        one(0, -INFINITY, INFINITY);
        one(0, -TINIEST, TINIEST);
        one(0, NO_NUMBER, NO_NUMBER);
    }

    private static void wholesNotAbove() {
        sentence("1 the whole one not above");
        one(1, 1.5, 1);
        one(1, -1.5, -2);
        one(1, -1, -1);
        one(1, 1 - 0x1p-53, 0.0);
        one(1, TINIEST, 0.0);
        one(1, -TINIEST, -1);
        one(1, 0.0, 0.0);
        one(1, -0.0, -0.0);
        one(1, TWO52 - HALF, TWO52 - 1);
        one(1, -(TWO52 - HALF), -TWO52);
        one(1, TWO52 + 1, TWO52 + 1);
        one(1, GREATEST, GREATEST);
        one(1, -INFINITY, -INFINITY);
        one(1, NO_NUMBER, NO_NUMBER);
    }

    private static void wholesNotBelow() {
        sentence("2 not below");
        one(2, 1.5, 2);
        one(2, -1.5, -1);
        one(2, 1, 1);
        one(2, 1 + 0x1p-52, 2);
        one(2, TINIEST, 1);
        one(2, -TINIEST, -0.0);
        one(2, -0.5, -0.0);
        one(2, 0.0, 0.0);
        one(2, -0.0, -0.0);
        one(2, TWO52 - HALF, TWO52);
        one(2, -(TWO52 - HALF), -(TWO52 - 1));
        one(2, GREATEST, GREATEST);
        one(2, INFINITY, INFINITY);
        one(2, NO_NUMBER, NO_NUMBER);
    }

    private static void nearestWholes() {
        sentence("3 the nearest (of two the even one)");
        one(3, 0.5, 0.0);
        one(3, 0.5 + 0x1p-53, 1);
        one(3, 0.5 - 0x1p-54, 0.0);
        one(3, 1.5, 2);
        one(3, 1.5 - 0x1p-52, 1);
        one(3, 2.5, 2);
        one(3, 3.5, 4);
        one(3, -0.5, -0.0);
        one(3, -1.5, -2);
        one(3, -2.5, -2);
        one(3, -0.0, -0.0);
        one(3, -TINIEST, -0.0);
        one(3, TWO52 - HALF, TWO52);
        one(3, TWO52 - 1.5, TWO52 - 2);
        one(3, TWO52 + 1, TWO52 + 1);
        one(3, GREATEST, GREATEST);
        one(3, -INFINITY, -INFINITY);
        one(3, NO_NUMBER, NO_NUMBER);
    }

    private static void signs() {
        sentence("4 its sign (-1, 0, 1; zeros and LOST stay)");
        one(4, 7, 1);
        one(4, -7, -1);
        one(4, TINIEST, 1);
        one(4, -TINIEST, -1);
        one(4, INFINITY, 1);
        one(4, -INFINITY, -1);
        one(4, 0.0, 0.0);
        one(4, -0.0, -0.0);
        one(4, NO_NUMBER, NO_NUMBER);
    }

    private static void roots() {
        sentence("5 the root");
        one(5, 4, 2);
        one(5, 2, 0x1.6a09e667f3bcdp0);
        one(5, 0.0, 0.0);
        one(5, -0.0, -0.0);
        one(5, -TINIEST, NO_NUMBER);
        one(5, -INFINITY, NO_NUMBER);
        one(5, INFINITY, INFINITY);
        one(5, GREATEST, 0x1.fffffffffffffp511);
        one(5, TINIEST, 0x1p-537);
        one(5, NORMAL, 0x1p-511);
        one(5, 1 + 0x1p-52, 1);
        one(5, 1 - 0x1p-53, 1 - 0x1p-53);
        one(5, NO_NUMBER, NO_NUMBER);
    }

    private static void steps() {
        sentence("6 the step to the next one of greater magnitude");
        one(6, 1, 0x1p-52);
        one(6, 1 - 0x1p-53, 0x1p-53);
        one(6, -2, 0x1p-51);
        one(6, 0.0, TINIEST);
        one(6, -0.0, TINIEST);
        one(6, TINIEST, TINIEST);
        one(6, NORMAL, TINIEST);
        one(6, 0x1p-1021, 2 * TINIEST);
        one(6, 0x1p-970, NORMAL);
        one(6, 0x1p-971, NORMAL / 2);
        one(6, NO_NUMBER, NO_NUMBER);
        sentence("(of infinities infinity");
        one(6, INFINITY, INFINITY);
        one(6, -INFINITY, INFINITY);
        sentence("of the greatest others that from the one below)");
        one(6, GREATEST, 0x1p971);
        one(6, -GREATEST, 0x1p971);
        one(6, 0x1p1023, 0x1p971);
    }

    private static void nextOnes() {
        sentence("7 the next above");
        one(7, 1, 1 + 0x1p-52);
        one(7, -1, -1 + 0x1p-53);
        one(7, 0.0, TINIEST);
        one(7, -0.0, TINIEST);
        one(7, -TINIEST, -0.0);
        one(7, NORMAL - TINIEST, NORMAL);
        one(7, GREATEST, INFINITY);
        one(7, INFINITY, INFINITY);
        one(7, -INFINITY, -GREATEST);
        one(7, NO_NUMBER, NO_NUMBER);
        sentence("8 below");
        one(8, 1, 1 - 0x1p-53);
        one(8, -1, -1 - 0x1p-52);
        one(8, 0.0, -TINIEST);
        one(8, -0.0, -TINIEST);
        one(8, TINIEST, 0.0);
        one(8, -GREATEST, -INFINITY);
        one(8, -INFINITY, -INFINITY);
        one(8, INFINITY, GREATEST);
        one(8, NO_NUMBER, NO_NUMBER);
    }

    private static void opposites() {
        sentence("9 its opposite");
        one(9, 3, -3);
        one(9, 0.0, -0.0);
        one(9, -0.0, 0.0);
        one(9, -INFINITY, INFINITY);
        one(9, NO_NUMBER, NO_NUMBER);
    }

    private static void exponents() {
        sentence("10 its exponent by 2");
        one(10, 1, 0.0);
        one(10, -8, 3);
        one(10, 2 - 0x1p-52, 0.0);
        one(10, 0.75, -1);
        one(10, GREATEST, 1023);
        one(10, NORMAL, -1022);
        sentence("(of 0 and magnitudes below 2^-1022 -1023");
        one(10, NORMAL - TINIEST, -1023);
        one(10, -TINIEST, -1023);
        one(10, 0.0, -1023);
        one(10, -0.0, -1023);
        sentence("of infinities and LOST 1024)");
        one(10, INFINITY, 1024);
        one(10, -INFINITY, 1024);
        one(10, NO_NUMBER, 1024);
    }

    private static void nearestOf32() {
        sentence("11 the nearest 32 bit one");
        one(11, 0.1, 0x1.99999ap-4);
        one(11, 1 + 0x1p-24, 1);
        one(11, 1 + 0x1p-24 + 0x1p-52, 1 + 0x1p-23);
        one(11, 1 + 0x1.8p-23, 1 + 0x1p-22);
        one(11, 0x1.fffffep127, 0x1.fffffep127);
        one(11, 0x1.fffffefffffffp127, 0x1.fffffep127);
        one(11, 0x1.ffffffp127, INFINITY);
        one(11, -GREATEST, -INFINITY);
        one(11, 0x1p-149, 0x1p-149);
        one(11, 0x1p-150, 0.0);
        one(11, -0x1p-150, -0.0);
        one(11, 0x1.8p-151, 0.0);
        one(11, -0x1.8p-152, -0.0);
        one(11, 0x1.0000000000001p-150, 0x1p-149);
        one(11, 0x1.8p-149, 0x1p-148);
        one(11, 0x1.ffffffp-127, 0x1p-126);
        one(11, -TINIEST, -0.0);
        one(11, -INFINITY, -INFINITY);
        one(11, NO_NUMBER, NO_NUMBER);
    }

    private static void themselves() {
        sentence("else itself");
        for (int which = 12; which <= 15; which++) {
            one(which, -1.5, -1.5);
            one(which, -0.0, -0.0);
            one(which, NO_NUMBER, NO_NUMBER);
            one(which, -INFINITY, -INFINITY);
        }
    }

    private static void lowestBitsOfMone() {
        sentence("30 MONE: m a is, by the lowest 4 bits of c (0 .. 15), of m b");
        for (int which = 0; which < 16; which++) {
            RobotCell plain = measures(-2.25);
            ends(plain, 0, MONE, 2, 1, which);
            for (int more : new int[] {16, -16, 1 << 30, Integer.MIN_VALUE}) {
                RobotCell x = measures(-2.25);
                ends(x, 0, MONE, 2, 1, which + more);
                Check.same("MONE " + (which + more), x.bits(2), plain.bits(2));
            }
        }
    }

    private static void two(int which, double left, double right, double want) {
        RobotCell x = measures(left, right);
        ends(x, 0, MTWO, 3, 1, 2 + 16 * which);
        Check.bits("MTWO " + which + " of " + left + ", " + right, x.bits(3), want);
    }

    private static void greaterAndLesser() {
        sentence("31 MTWO: 0 the greater one, 1 the lesser one (-0 below 0; LOST if one is)");
        double[][] pairs = {{-1, 2}, {-0.0, 0.0}, {-INFINITY, INFINITY}, {-TINIEST, -0.0}, {GREATEST, INFINITY},
            {-2, -1}, {5, 5}, {-0.0, -0.0}};
        for (double[] pair : pairs) {
            two(0, pair[0], pair[1], pair[1]);
            two(0, pair[1], pair[0], pair[1]);
            two(1, pair[0], pair[1], pair[0]);
            two(1, pair[1], pair[0], pair[0]);
        }
        for (double other : new double[] {0, -INFINITY, INFINITY, NO_NUMBER}) {
            two(0, NO_NUMBER, other, NO_NUMBER);
            two(0, other, NO_NUMBER, NO_NUMBER);
            two(1, NO_NUMBER, other, NO_NUMBER);
            two(1, other, NO_NUMBER, NO_NUMBER);
        }
    }

    private static void signsOfOthers() {
        sentence("2 m b's magnitude with m c's sign (of LOST none)");
        two(2, 3, -1, -3);
        two(2, -3, -1, -3);
        two(2, -3, 1, 3);
        two(2, -3, 0.0, 3);
        two(2, 3, -0.0, -3);
        two(2, 0.0, -INFINITY, -0.0);
        two(2, -INFINITY, TINIEST, INFINITY);
        two(2, -3, NO_NUMBER, 3);
        two(2, 3, NO_NUMBER, 3);
        two(2, -0.0, NO_NUMBER, 0.0);
        two(2, NO_NUMBER, -1, NO_NUMBER);
        RobotCell x = numbers(-1L);
        ends(x, 0, TOM, 2, 1, 1, MSET, 1, -3, 1, MTWO, 3, 1, 2 + 32);
        Check.bits("of a LOST with a sign bit none either", x.bits(3), 3);
    }

    private static void productsAndSums() {
        sentence("3 m b * m c, rounded, and that + m a, rounded");
        double[][] cases = {
            {1 + 0x1p-52, 1 + 0x1p-52, -(1 + 0x1p-51), 0.0}, {GREATEST, 2, -INFINITY, NO_NUMBER},
            {GREATEST, 2, -GREATEST, INFINITY}, {TINIEST, HALF, 1, 1}, {TINIEST, HALF, -0.0, 0.0},
            {0.0, -1, -0.0, -0.0}, {0.0, INFINITY, 1, NO_NUMBER}, {2, 3, 4, 10}, {2, 3, NO_NUMBER, NO_NUMBER},
            {0.1, 10, -1, 0.0}
        };
        for (double[] one : cases) {
            RobotCell x = measures(one[0], one[1], one[2]);
            ends(x, 0, MTWO, 3, 1, 2 + 48);
            Check.bits("MTWO 3 of " + one[0] + ", " + one[1] + ", " + one[2], x.bits(3), one[3]);
        }
    }

    private static void ranks() {
        sentence("4 -1, 0, 1: whether m b is ahead of m c (-0 ahead of 0, LOST last and alike)");
        double[] inOrder = {-INFINITY, -GREATEST, -1, -TINIEST, -0.0, 0.0, TINIEST, 1, GREATEST, INFINITY, NO_NUMBER};
        for (int i = 0; i < inOrder.length; i++) {
            for (int k = 0; k < inOrder.length; k++) {
                two(4, inOrder[i], inOrder[k], i < k ? -1 : i > k ? 1 : 0.0);
            }
        }
        RobotCell x = numbers(-1L, 0x7ff0000000000001L);
        ends(x, 0, TOM, 1, 1, 1, TOM, 2, 2, 1, MTWO, 3, 1, 2 + 64);
        Check.same("LOST ones are alike", x.bits(3), 0);
    }

    private static void scaled(double of, long k, double want) {
        RobotCell x = measures(of);
        Check.number(x, 2, k);
        ends(x, 0, MTWO, 3, 1, 2 + 80);
        Check.bits(of + " * 2^" + k, x.bits(3), want);
    }

    private static void scaling() {
        sentence("5 m b * 2^k, k n c within -3000 .. 3000 (beyond: these)");
        scaled(1.5, 4, 24);
        scaled(1, 1023, 0x1p1023);
        scaled(1, 1024, INFINITY);
        scaled(-1, 3000, -INFINITY);
        scaled(TINIEST, 1074, 1);
        scaled(TINIEST, 2097, 0x1p1023);
        scaled(TINIEST, 2098, INFINITY);
        scaled(TINIEST, 3000, INFINITY);
        scaled(TINIEST, 3001, INFINITY);
        scaled(0x1p1023, -2097, TINIEST);
        scaled(0x1p1023, -2098, 0.0);
        scaled(-0x1p1023, -3000, -0.0);
        for (long far : new long[] {3001, 1L << 31, 1L << 32, MOST}) {
            scaled(1, far, INFINITY);
            scaled(-1, -far, -0.0);
            scaled(0.0, far, 0.0);
            scaled(-0.0, far, -0.0);
            scaled(INFINITY, -far, INFINITY);
            scaled(NO_NUMBER, far, NO_NUMBER);
        }
        scaled(1, LEAST, 0.0);
        scaled(1, 0, 1);
    }

    private static void scalingRoundsOnce() {
        sentence("5 m b * 2^k, rounded once");
        scaled(1, -1074, TINIEST);
        scaled(1, -1075, 0.0);
        scaled(-1.5, -1076, -0.0);
        scaled(1.5, -1077, 0.0);
        scaled(1 + 0x1p-52, -1075, TINIEST);
        scaled(1.5, -1074, 2 * TINIEST);
        scaled(2.5, -1074, 2 * TINIEST);
        scaled(-3, -1075, -2 * TINIEST);
        // Rounded at 2^-1074 by a first step, and then once more, these would come to another one.
        scaled(0x1.8000000000001p0, -1075, TINIEST);
        scaled(0x1.7ffffffffffffp1, -1075, TINIEST);
        scaled(2 - 0x1p-52, -1023, NORMAL);
        scaled(GREATEST, -2046, NORMAL);
    }

    private static void halfSums() {
        sentence("6 half of their sum, the other one if one is LOST");
        two(6, 1, 2, 1.5);
        two(6, -1, 1, 0.0);
        two(6, -0.0, -0.0, -0.0);
        two(6, TINIEST, 0.0, 0.0);
        two(6, TINIEST, 2 * TINIEST, 2 * TINIEST);
        two(6, GREATEST, GREATEST, INFINITY);
        two(6, INFINITY, -INFINITY, NO_NUMBER);
        two(6, NO_NUMBER, 7, 7);
        two(6, 7, NO_NUMBER, 7);
        two(6, NO_NUMBER, -0.0, -0.0);
        two(6, INFINITY, NO_NUMBER, INFINITY);
        two(6, NO_NUMBER, NO_NUMBER, NO_NUMBER);
    }

    private static void theSeventh() {
        sentence("7 m b");
        two(7, -0.0, 3, -0.0);
        two(7, NO_NUMBER, 3, NO_NUMBER);
        two(7, 3, NO_NUMBER, 3);
    }

    private static void bitsOfMtwo() {
        sentence("by the bits 16, 32, 64 of c (as a number 0 .. 7) .. (m c by the lowest 4 bits of c.)");
        for (int which = 0; which < 8; which++) {
            RobotCell plain = measures(-2.25, 3);
            plain.number(2, 0, 5);
            ends(plain, 0, MTWO, 3, 1, 2 + 16 * which);
            for (int more : new int[] {128, -128, 1 << 30, Integer.MIN_VALUE}) {
                RobotCell x = measures(-2.25, 3);
                x.number(2, 0, 5);
                ends(x, 0, MTWO, 3, 1, 2 + 16 * which + more);
                Check.same("MTWO " + which + " + " + more, x.bits(3), plain.bits(3));
            }
        }
        RobotCell x = measures(1);
        ends(x, 0, MSET, 15, 9, 1, MTWO, 3, 1, 15);
        Check.bits("m 15", x.bits(3), 9);
    }

    private static void test(double left, double right, int... want) {
        for (int which = 0; which < 8; which++) {
            for (int more : new int[] {0, 128, -128, Integer.MIN_VALUE}) {
                RobotCell x = measures(left, right);
                x.number(3, -1, 5);
                ends(x, 0, MTEST, 3, 1, 2 + 16 * which + more);
                Check.same("MTEST " + which + " of " + left + ", " + right, x.told(3), want[Math.min(which, 5)]);
            }
        }
    }

    private static void tests() {
        sentence("32 MTEST: 0 less, 1 less or like, 2 greater, 3 greater or like, 4 like, others unlike");
        test(1, 2, 1, 1, 0, 0, 0, 1);
        test(2, 1, 0, 0, 1, 1, 0, 1);
        test(2, 2, 0, 1, 0, 1, 1, 0);
        test(-0.0, 0.0, 0, 1, 0, 1, 1, 0);
        test(0.0, -0.0, 0, 1, 0, 1, 1, 0);
        test(-INFINITY, -GREATEST, 1, 1, 0, 0, 0, 1);
        test(INFINITY, INFINITY, 0, 1, 0, 1, 1, 0);
        test(-TINIEST, 0.0, 1, 1, 0, 0, 0, 1);
        test(-1, -2, 0, 0, 1, 1, 0, 1);
        sentence("(LOST is nothing but unlike)");
        test(NO_NUMBER, 1, 0, 0, 0, 0, 0, 1);
        test(1, NO_NUMBER, 0, 0, 0, 0, 0, 1);
        test(NO_NUMBER, NO_NUMBER, 0, 0, 0, 0, 0, 1);
        test(INFINITY, NO_NUMBER, 0, 0, 0, 0, 0, 1);
    }

    private static void ton(int which, double of, long want) {
        for (int more : new int[] {0, 8, -8, Integer.MIN_VALUE}) {
            RobotCell x = measures(of);
            x.number(3, 5, 5);
            ends(x, 0, TON, 3, 1, which + more);
            Check.same("TON " + (which + more) + " of " + of, x.told(3), want);
        }
    }

    private static void cutWholes() {
        sentence("33 TON: 0 m b cut to whole, within 64 bits (beyond them the end)");
        ton(0, 1.9, 1);
        ton(0, -1.9, -1);
        ton(0, -0.0, 0);
        ton(0, 1 - 0x1p-53, 0);
        ton(0, -TINIEST, 0);
        ton(0, TWO52 - HALF, 4503599627370495L);
        ton(0, 0x1.fffffffffffffp62, 0x7ffffffffffffc00L);
        ton(0, 0x1p63, MOST);
        ton(0, INFINITY, MOST);
        ton(0, GREATEST, MOST);
        ton(0, -0x1p63, LEAST);
        ton(0, -0x1.0000000000001p63, LEAST);
        ton(0, -0x1.fffffffffffffp62, -0x7ffffffffffffc00L);
        ton(0, -INFINITY, LEAST);
    }

    private static void cutWholesOf32() {
        sentence("1 within 32");
        ton(1, -1.9, -1);
        ton(1, 2147483647.5, 2147483647L);
        ton(1, 2147483648.0, 2147483647L);
        ton(1, 2147483646.9, 2147483646L);
        ton(1, 4294967296.0, 2147483647L);
        ton(1, -2147483648.9, -2147483648L);
        ton(1, -2147483649.0, -2147483648L);
        ton(1, -2147483647.9, -2147483647L);
        ton(1, 0x1p63, 2147483647L);
        ton(1, -INFINITY, -2147483648L);
        ton(1, INFINITY, 2147483647L);
    }

    private static void halfUps() {
        sentence("2 m b + 1/2 (exactly), the whole one not above, within 64 bits");
        ton(2, 0.5, 1);
        ton(2, 0.5 - 0x1p-54, 0);
        ton(2, -0.5, 0);
        ton(2, -0.5 - 0x1p-53, -1);
        ton(2, 1.5, 2);
        ton(2, -1.5, -1);
        ton(2, 2.5, 3);
        ton(2, -2.5, -2);
        ton(2, 2.5 - 0x1p-51, 2);
        ton(2, -0.0, 0);
        ton(2, -TINIEST, 0);
        ton(2, TWO52 - HALF, 4503599627370496L);
        ton(2, TWO52 + 1, 4503599627370497L);
        ton(2, 2 * TWO52 - 1, 9007199254740991L);
        ton(2, -(2 * TWO52 - 1), -9007199254740991L);
        ton(2, 0x1p63, MOST);
        ton(2, 0x1.fffffffffffffp62, 0x7ffffffffffffc00L);
        ton(2, -0x1p63, LEAST);
        ton(2, -GREATEST, LEAST);
        ton(2, INFINITY, MOST);
        ton(2, -INFINITY, LEAST);
    }

    private static void lostNumbers() {
        sentence("(0 to 2: LOST)");
        for (int which = 0; which < 3; which++) {
            refuses(measures(NO_NUMBER), Check.LOST, TON, 3, 1, which);
            refuses(measures(NO_NUMBER), Check.LOST, TON, 3, 1, which - 8);
        }
        for (int which = 3; which < 8; which++) {
            ends(measures(NO_NUMBER), 0, TON, 3, 1, which);
        }
    }

    private static void bitsOfMeasures() {
        sentence("3 m b's bits (of LOST as in 21)");
        ton(3, 1, 0x3ff0000000000000L);
        ton(3, -0.0, LEAST);
        ton(3, -INFINITY, 0xfff0000000000000L);
        ton(3, TINIEST, 1);
        ton(3, NO_NUMBER, 0x7ff8000000000000L);
    }

    private static void bitsOf32() {
        sentence("4 those of the nearest 32 bit one, with a sign (of LOST 0x7fc00000)");
        ton(4, 1, 0x3f800000);
        ton(4, -1, (int) 0xbf800000L);
        ton(4, -0.0, Integer.MIN_VALUE);
        ton(4, -INFINITY, (int) 0xff800000L);
        ton(4, 0x1.ffffffp127, 0x7f800000);
        ton(4, 0x1.fffffefffffffp127, 0x7f7fffff);
        ton(4, 0x1p-150, 0);
        ton(4, 0x1.0000000000001p-150, 1);
        ton(4, -TINIEST, Integer.MIN_VALUE);
        ton(4, 0x1.fffffep-127, 0x00800000);
        ton(4, 0x1.fffffcp-127, 0x007fffff);
        ton(4, NO_NUMBER, 0x7fc00000);
    }

    private static void isLost() {
        sentence("5 1 if it is LOST, else 0");
        ton(5, NO_NUMBER, 1);
        ton(5, INFINITY, 0);
        ton(5, -INFINITY, 0);
        ton(5, 0.0, 0);
        ton(5, GREATEST, 0);
    }

    private static void otherNumbers() {
        sentence("6, 7: 0.");
        ton(6, 3, 0);
        ton(7, -3, 0);
        ton(6, NO_NUMBER, 0);
        ton(7, NO_NUMBER, 0);
    }

    private static void tom(int which, long of, long want) {
        for (int more : new int[] {0, 4, -4, Integer.MIN_VALUE}) {
            RobotCell x = numbers(of);
            ends(x, 0, TOM, 3, 1, which + more);
            Check.same("TOM " + (which + more) + " of " + Long.toHexString(of), x.bits(3), want);
        }
    }

    private static long of(double x) {
        return Double.doubleToLongBits(x);
    }

    private static void nearestToNumbers() {
        sentence("34 TOM: 0 the nearest to n b");
        tom(0, 0, 0);
        tom(0, -1, of(-1));
        tom(0, (1L << 53) - 1, of(9007199254740991.0));
        tom(0, (1L << 53) + 1, of(9007199254740992.0));
        tom(0, (1L << 53) + 2, of(9007199254740994.0));
        tom(0, (1L << 53) + 3, of(9007199254740996.0));
        tom(0, -(1L << 53) - 1, of(-9007199254740992.0));
        tom(0, MOST, of(0x1p63));
        tom(0, MOST - 511, of(0x1p63));
        tom(0, MOST - 512, of(0x1.fffffffffffffp62));
        tom(0, LEAST, of(-0x1p63));
        tom(0, LEAST + 512, of(-0x1p63));
        tom(0, LEAST + 513, of(-0x1.fffffffffffffp62));
    }

    private static void measuresOfBits() {
        sentence("1 that of the bits n b");
        tom(1, 1, 1);
        tom(1, LEAST, LEAST);
        tom(1, 0x7ff0000000000000L, 0x7ff0000000000000L);
        tom(1, 0x7ff0000000000001L, Check.LOST_BITS);
        tom(1, -1, Check.LOST_BITS);
        sentence("2 of its lowest 32");
        tom(2, 0x3f800000, of(1));
        tom(2, 0x5_3f800000L, of(1));
        tom(2, 0xbf800000L, of(-1));
        tom(2, -1L << 32, 0);
        tom(2, 0x80000000L, LEAST);
        tom(2, 1, of(0x1p-149));
        tom(2, 0x007fffff, of(0x1.fffffcp-127));
        tom(2, 0x00800000, of(0x1p-126));
        tom(2, 0x7f7fffff, of(0x1.fffffep127));
        tom(2, 0x7f800000, of(INFINITY));
        tom(2, 0xff800000L, of(-INFINITY));
        tom(2, 0x7f800001, Check.LOST_BITS);
        tom(2, 0xffc00000L, Check.LOST_BITS);
    }

    private static void nearestOf32ToNumbers() {
        sentence("3 the nearest of 32 bits to n b (rounded once).");
        tom(3, 0, 0);
        tom(3, (1L << 24) + 1, of(16777216.0));
        tom(3, (1L << 24) + 3, of(16777220.0));
        tom(3, -(1L << 24) - 1, of(-16777216.0));
        tom(3, MOST, of(0x1p63));
        tom(3, LEAST, of(-0x1p63));
        // A step by way of 64 bits would round these to a half first, and then to the even one.
        tom(3, (1L << 60) + (1L << 36) + 1, of(0x1p60 + 0x1p37));
        tom(3, (1L << 60) + (3L << 36) - 1, of(0x1p60 + 0x1p37));
        tom(3, -(1L << 60) - (1L << 36) - 1, of(-0x1p60 - 0x1p37));
        tom(3, (1L << 60) + (1L << 36), of(0x1p60));
        tom(3, 0x7fffffbfffffffffL, of(0x1.fffffep62));
        tom(3, 0x7fffffc000000000L, of(0x1p63));
    }
}
