import java.util.Arrays;

/** Section 1 of the document, REGISTERS, THINGS by KINDS and FAULTS: a test for each sentence's edges. */
public final class RegisterBoundsTests extends Bounds {
    private RegisterBoundsTests() {
    }

    public static void main(String[] args) {
        numbersGoRound();
        infinitiesAndZeros();
        lostIsOne();
        atFirst();
        thingsAreShared();
        lowestFourBits();
        lowestFourBitsOfOrders();
        rowsOfNumbers();
        rowsOfFractions();
        kindsThatAreOthersToo();
        kindsThatAreNot();
        newPlaces();
        thingsOfALife();
        gridsOfALife();
        theLimitIsBehindAllElse();
        resetEndsNoLife();
        faultsOfALife();
        faultsThatGoOn();
        faultsRaisedAgain();
        faultsOfEveryKindCount();
        faultsByNumber();
        kindAheadOfNone();
        noneAheadOfOthers();
        Check.end();
    }

    private static void gives(int operation, long left, long right, long want) {
        RobotCell x = numbers(left, right);
        ends(x, 0, operation, 3, 1, 2);
        Check.same(operation + " of " + left + ", " + right, x.told(3), want);
    }

    private static void numbersGoRound() {
        sentence("NUMBERS n0 .. n15 (64 bits, going round)");
        gives(ADD, MOST, 1, LEAST);
        gives(ADD, MOST, MOST, -2);
        gives(ADD, LEAST, -1, MOST);
        gives(ADD, LEAST, LEAST, 0);
        gives(ADD, 0xffffffffL, 1, 0x100000000L);
        gives(SUB, LEAST, 1, MOST);
        gives(SUB, MOST, -1, LEAST);
        gives(SUB, 0, LEAST, LEAST);
        gives(MUL, MOST, 2, -2);
        gives(MUL, LEAST, -1, LEAST);
        gives(MUL, LEAST, 2, 0);
        gives(MUL, 1L << 32, 1L << 32, 0);
        gives(MUL, 0xffffffffL, 0x100000001L, -1);
        gives(LEFT, 3, 63, LEAST);
    }

    private static void infinitiesAndZeros() {
        sentence("MEASURES m0 .. m15 (binary fractions of 64 bits as IEEE 754 tells them, with infinities, both zeros");
        RobotCell x = after(MSET, 0, 1, 0, MSET, 1, -1, 0, MSET, 2, 0, 1, MSET, 3, 0, -1, MSET, 4, -1, 3);
        Check.same("infinity", x.bits(0), 0x7ff0000000000000L);
        Check.same("infinity below", x.bits(1), 0xfff0000000000000L);
        Check.same("0", x.bits(2), 0);
        Check.same("-0", x.bits(3), LEAST);
        Check.same("-1/3", x.bits(4), 0xbfd5555555555555L);
        for (long bits : new long[] {1, LEAST + 1, 0x000fffffffffffffL, 0x7fefffffffffffffL, 0xffefffffffffffffL}) {
            x = numbers(bits);
            ends(x, 0, TOM, 1, 1, 1);
            Check.same("a measure of the bits " + Long.toHexString(bits), x.bits(1), bits);
        }
    }

    private static void lostIsOne() {
        sentence("all that are no number are LOST, and told as one");
        long[] patterns = {0x7ff0000000000001L, 0x7ff8000000000000L, 0x7fffffffffffffffL, 0xfff0000000000001L,
            0xfff8000000000000L, -1L, 0x7ff00000ffffffffL};
        for (long bits : patterns) {
            RobotCell x = numbers(bits, 1, 0);
            ends(x, 0, TOM, 1, 1, 1, MLOG, 1, 0, 0, TON, 4, 1, 3, TON, 5, 1, 4, MAKE, 7, 2, 7, STORE + 7, 1, 7, 3,
                    MAKE, 6, 2, 6, STORE + 6, 1, 6, 3, LOAD + 7, 2, 7, 3, LOAD + 6, 3, 6, 3);
            Check.same("bits", x.bits(1), Check.LOST_BITS);
            Check.same("LOG", x.logged(0), Check.LOST_BITS);
            Check.same("TON 3", x.told(4), Check.LOST_BITS);
            Check.same("TON 4", x.told(5), 0x7fc00000);
            Check.same("a place of MEASURES", x.place(7, 0), Check.LOST_BITS);
            Check.same("a place of SAMPLES", x.place(6, 0), 0x7fc00000);
            Check.same("out of MEASURES", x.bits(2), Check.LOST_BITS);
            Check.same("out of SAMPLES", x.bits(3), Check.LOST_BITS);
        }
        for (long bits : new long[] {0x7f800001, 0x7fffffff, 0xff800001L, 0xffffffffL, -1L}) {
            RobotCell x = numbers(bits);
            ends(x, 0, TOM, 1, 1, 2);
            Check.same("of 32 bits", x.bits(1), Check.LOST_BITS);
        }
        int[][] losing = {{MSUB, 1, 1}, {MADD, 1, 2}, {MMUL, 1, 3}, {MMUL, 4, 2}, {MDIV, 3, 4}, {MDIV, 1, 2},
            {MREM, 1, 5}, {MREM, 5, 3}, {MREM, 4, 4}};
        for (int[] one : losing) {
            RobotCell x = measures(INFINITY, -INFINITY, 0.0, -0.0, 1.0);
            ends(x, 0, one[0], 6, one[1], one[2]);
            Check.same(one[0] + " loses", x.bits(6), Check.LOST_BITS);
        }
        RobotCell x = measures(-1);
        ends(x, 0, MONE, 2, 1, 5);
        Check.same("the root of -1", x.bits(2), Check.LOST_BITS);
    }

    private static void atFirst() {
        sentence("at first 0; SLOTS p0 .. p15, EMPTY at first");
        RobotCell x = new RobotCell();
        for (int r = 0; r < 16; r++) {
            Check.same("n " + r, x.told(r), 0);
            Check.same("m " + r, x.bits(r), 0);
            Check.same("p " + r, x.slot(r, 0), -1);
            Check.same("p " + r, x.slot(r, 1), -1);
            Check.same("p " + r, x.slot(r, 2), -1);
        }
    }

    private static void thingsAreShared() {
        sentence("or with a THING, which other slots and things may have, too");
        RobotCell x = after(SET, 1, 0, 2, SET, 2, 0, 1, GRID, 10, 1, 1, LOAD + 10, 1, 10, 0, MOVE, 2, 1, 0,
                STORE + 10, 2, 10, 2, STORE + 4, 2, 1, 0, LOAD + 10, 3, 10, 2);
        Check.same("another slot's ROW", x.place(2, 0), 1);
        Check.same("a GRID's ROW", x.place(3, 0), 1);
        Check.same("the first one with it", x.slot(3, 2), 1);
        ends(x, 0, DROP, 1, 0, 0, DROP, 2, 0, 0, DROP, 3, 0, 0, LOAD + 10, 15, 10, 0);
        Check.same("a thing keeps it", x.place(15, 0), 1);
        RobotCell y = after(POSE, 1, 0, 0, POSE, 2, 0, 0, WRITE, 1, 2, 4, WRITE, 1, 1, 4, SET, 3, 0, 7,
                READ, 4, 2, 4, WRITE, 3, 4, 3, READ, 5, 1, 3);
        Check.same("a POSE's after", y.told(5), 7);
        Check.same("the same one", y.slot(4, 2), 1);
        Check.same("another one", y.slot(2, 2), 2);
    }

    private static void lowestFourBits() {
        sentence("A register's number is its lowest 4 bits.");
        int[] fives = {5, 21, -11, 5 + (1 << 20), Integer.MIN_VALUE + 5, Integer.MAX_VALUE - 10};
        for (int r : fives) {
            RobotCell x = new RobotCell();
            x.number(r, 0, 9);
            Check.same("number", x.told(5), 9);
            ends(x, 0, SET, 5, 0, 1, MSET, 5, 1, 2, MAKE, 5, 5, 4);
            Check.same("told", x.told(r), 1);
            Check.bits("bits", x.bits(r), 0.5);
            Check.same("slot", x.slot(r, 0), 4);
            Check.same("slot", x.slot(r, 2), 5);
            Check.same("place", x.place(r, 0), 0);
        }
        for (int r : new int[] {15, -1, 31, Integer.MAX_VALUE, -17}) {
            RobotCell x = new RobotCell();
            x.number(r, 1, 1);
            Check.same("15", x.told(15), 0x100000001L);
            Check.same("not 0", x.told(0), 0);
        }
    }

    /* How far the registers' numbers of an order may be moved, by place: 0 not at all, as a number counts there. */
    private static final int[][] MOVABLE = {
        {SET, 16, 0, 0}, {ADD, 16, 16, 16}, {SUB, 16, 16, 16}, {XOR, 16, 16, 16}, {LESS, 16, 16, 16}, {LOG, 16, 1, 1},
        {MLOG, 16, 1, 1}, {MSET, 16, 0, 0}, {MADD, 16, 16, 16}, {MDIV, 16, 16, 16}, {MREM, 16, 16, 16},
        {MONE, 16, 16, 16}, {MTWO, 16, 16, 128}, {MTEST, 16, 16, 128}, {TON, 16, 16, 8}, {TOM, 16, 16, 4},
        {MAKE, 16, 16, 0}, {GRID, 16, 16, 16}, {LENGTH, 16, 16, 1}, {COPY, 16, 16, 16}, {CLONE, 16, 16, 1},
        {SORT, 16, 16, 1}, {MOVE, 16, 16, 1}, {DROP, 16, 1, 1}, {LOAD + 4, 16, 16, 16}, {LOAD + 7, 16, 16, 16},
        {LOAD + 8, 16, 16, 16}, {STORE + 4, 16, 16, 16}, {STORE + 7, 16, 16, 16}, {STORE + 8, 16, 16, 16},
        {POSE, 16, 1, 2}, {READ, 16, 16, 8}, {WRITE, 16, 16, 8}, {SHIFT, 16, 16, 16}, {APART, 16, 16, 16},
        {DEVICE, 16, 1, 4}, {GO, 16, 16, 16}, {TELL, 16, 16, 8}, {REST, 16, 1, 1}, {SENSE, 16, 16, 1},
        {TRY, 16, 0, 0}, {RAISE, 16, 1, 1}, {SKIP, 16, 256, 1}, {REPEAT, 16, 0, 1}
    };

    private static int[] aRun() {
        int[] head = {
            SET, 3, 0, 9, SET, 4, 0, 3, SET, 13, 0, 1, SET, 14, 0, 1, SET, 15, 0, 2, ADD, 5, 3, 4, SUB, 6, 3, 4,
            XOR, 7, 3, 4, LESS, 8, 3, 4, LOG, 5, 0, 0, MSET, 3, 22, 7, MSET, 4, 5, 3, MLOG, 3, 0, 0, MADD, 5, 3, 4,
            MDIV, 6, 3, 4, MREM, 7, 3, 4, MONE, 8, 3, 2, MTWO, 9, 3, 4 + 16, MTEST, 9, 3, 4 + 32, TON, 10, 3, 2,
            TOM, 10, 3, 3, MAKE, 3, 4, 4, MAKE, 4, 4, 4, STORE + 4, 3, 3, 13, COPY, 3, 4, 13, LOAD + 4, 11, 4, 14,
            GRID, 5, 13, 4, LENGTH, 12, 5, 0, CLONE, 6, 4, 0, SORT, 1, 6, 0, MOVE, 7, 6, 0, DROP, 6, 0, 0,
            MAKE, 8, 4, 7, STORE + 7, 3, 8, 13, LOAD + 7, 11, 8, 13, POSE, 9, 0, 1, MAKE, 10, 4, 8,
            STORE + 8, 9, 10, 13, LOAD + 8, 11, 10, 13, WRITE, 4, 9, 1, SHIFT, 9, 3, 4, READ, 12, 9, 1,
            POSE, 12, 0, 0, APART, 13, 9, 12, DEVICE, 13, 0, 2, GO, 2, 13, 5, TELL, 14, 13, 3, REST, 13, 0, 0,
            DEVICE, 14, 0, 3, SENSE, 14, 3, 0, TELL, 15, 14, 0
        };
        int n = head.length / 4;
        int[] tail = {
            SKIP, 4, 1, 0, END, 0, 0, 0, TRY, 0, n + 5, 0, REPEAT, 4, n + 7, 0, END, 0, 0, 0,
            RAISE, 4, 0, 0, END, 0, 0, 0, ADD, 0, 0, 13, END, 0, 0, 0
        };
        int[] all = Arrays.copyOf(head, head.length + tail.length);
        System.arraycopy(tail, 0, all, head.length, tail.length);
        return all;
    }

    private static int[] moved(int[] orders, int by) {
        int[] result = orders.clone();
        for (int i = 0; i < orders.length; i += 4) {
            for (int[] one : MOVABLE) {
                for (int k = 1; k < 4 && one[0] == orders[i]; k++) {
                    result[i + k] += one[k] * by;
                }
            }
        }
        return result;
    }

    private static void lowestFourBitsOfOrders() {
        sentence("A register's number is its lowest 4 bits (in every order).");
        int[] orders = aRun();
        RobotCell plain = after(orders);
        Check.same("RAISE 3 was caught, then 1 was added 3 times", plain.told(0), 6);
        for (int by : new int[] {1, -1, 3, 0x00ffffff, -0x01000000, 0x01234567, -0x00abcdef}) {
            RobotCell x = after(moved(orders, by));
            Check.that("moved by " + by, Arrays.equals(state(x), state(plain)));
            Check.same("moved by " + by, x.fault(1), plain.fault(1));
        }
    }

    private static void holds(int kind, long number, long want) {
        RobotCell x = numbers(number, 1);
        ends(x, 0, MAKE, 1, 2, kind, STORE + kind, 1, 1, 0, LOAD + kind, 3, 1, 0);
        Check.same("kind " + kind + ": place of " + number, x.place(1, 0), want);
        Check.same("kind " + kind + ": LOAD of " + number, x.told(3), want);
    }

    private static void rowsOfNumbers() {
        sentence("ROWS of 0 SIGNALS (no, yes)");
        holds(0, 0, 0);
        holds(0, 1, 1);
        holds(0, 2, 1);
        holds(0, -1, 1);
        holds(0, 1L << 32, 1);
        holds(0, LEAST, 1);
        sentence("1 LETTERS (16 bits, from 0 on)");
        holds(1, 65535, 65535);
        holds(1, 65536, 0);
        holds(1, -1, 65535);
        holds(1, 32768, 32768);
        holds(1, LEAST, 0);
        sentence("2 BYTES (8 bits with a sign)");
        holds(2, 127, 127);
        holds(2, 128, -128);
        holds(2, -128, -128);
        holds(2, -129, 127);
        holds(2, 255, -1);
        holds(2, 256, 0);
        sentence("3 COUNTS (16 bits with a sign)");
        holds(3, 32767, 32767);
        holds(3, 32768, -32768);
        holds(3, -32769, 32767);
        holds(3, 65535, -1);
        holds(3, 65536, 0);
        sentence("4 INTS (32)");
        holds(4, 0x7fffffffL, 0x7fffffffL);
        holds(4, 0x80000000L, -0x80000000L);
        holds(4, -0x80000001L, 0x7fffffffL);
        holds(4, 0xffffffffL, -1);
        holds(4, 1L << 32, 0);
        sentence("5 LONGS (64)");
        holds(5, MOST, MOST);
        holds(5, LEAST, LEAST);
        holds(5, 1L << 32, 1L << 32);
    }

    private static void holdsMeasure(int kind, long bits, long wantPlace, long wantBits) {
        RobotCell x = numbers(bits, 1);
        ends(x, 0, TOM, 1, 1, 1, MAKE, 1, 2, kind, STORE + kind, 1, 1, 0, LOAD + kind, 3, 1, 0);
        Check.same("kind " + kind + ": place of " + Long.toHexString(bits), x.place(1, 0), wantPlace);
        Check.same("kind " + kind + ": LOAD of " + Long.toHexString(bits), x.bits(3), wantBits);
    }

    private static void rowsOfFractions() {
        sentence("6 SAMPLES (binary fractions of 32 bits)");
        holdsMeasure(6, 0x47efffffe0000000L, 0x7f7fffff, 0x47efffffe0000000L);
        holdsMeasure(6, 0x47efffffefffffffL, 0x7f7fffff, 0x47efffffe0000000L);
        holdsMeasure(6, 0x47effffff0000000L, 0x7f800000, 0x7ff0000000000000L);
        holdsMeasure(6, 0xc7effffff0000000L, (int) 0xff800000L, 0xfff0000000000000L);
        holdsMeasure(6, 0x36a0000000000000L, 1, 0x36a0000000000000L);
        holdsMeasure(6, 0x3690000000000001L, 1, 0x36a0000000000000L);
        holdsMeasure(6, 0x3690000000000000L, 0, 0);
        holdsMeasure(6, 0xb690000000000000L, Integer.MIN_VALUE, LEAST);
        holdsMeasure(6, 0x3ff0000010000000L, 0x3f800000, 0x3ff0000000000000L);
        holdsMeasure(6, 0x3ff0000030000000L, 0x3f800002, 0x3ff0000040000000L);
        holdsMeasure(6, LEAST, Integer.MIN_VALUE, LEAST);
        sentence("7 MEASURES");
        for (long bits : new long[] {0, LEAST, 1, 0x7fefffffffffffffL, 0xfff0000000000000L}) {
            holdsMeasure(7, bits, bits, bits);
        }
    }

    private static void kindsThatAreOthersToo() {
        sentence("12 a GRASP (which is a POSE, too)");
        RobotCell x = after(ALL_KINDS);
        ends(x, 0, READ, 1, 12, 0, WRITE, 1, 12, 2, WRITE, 12, 11, 4, SHIFT, 12, 1, 1, APART, 1, 12, 11,
                STORE + 8, 12, 8, 2);
        sentence("(A ROW of GRASPS is a ROW of POSES, too.)");
        ends(x, 0, STORE + 8, 12, 9, 2, LOAD + 8, 2, 9, 2);
        Check.same("a GRASP out of it", x.slot(2, 0), 12);
        sentence("14 a RAIL (an AXIS, too), 15 a WRIST (a RAIL, too)");
        ends(x, 0, GO, 1, 14, 9, REST, 14, 0, 0, GO, 1, 15, 9, REST, 15, 0, 0, TELL, 1, 15, 0);
        sentence("DEVICES: 13 an AXIS, 14 a RAIL, 15 a WRIST, 16 a PROBE");
        for (int kind = 1; kind <= 16; kind++) {
            Check.same("slot of kind " + kind, x.slot(kind, 0), kind == 2 ? 12 : kind);
        }
    }

    private static void kindsThatAreNot() {
        sentence("12 a GRASP (which is a POSE, too): a POSE is no GRASP");
        RobotCell x = after(ALL_KINDS);
        refuses(x, Check.KIND, STORE + 9, 11, 9, 2);
        sentence("(A ROW of GRASPS is a ROW of POSES, too.): a ROW of POSES is none of GRASPS");
        refuses(after(ALL_KINDS), Check.KIND, LOAD + 9, 2, 8, 2);
        sentence("DEVICES: a PROBE is no AXIS, an AXIS no PROBE");
        refuses(after(ALL_KINDS), Check.KIND, REST, 0, 0, 0);
        refuses(after(ALL_KINDS), Check.KIND, SENSE, 13, 0, 0);
    }

    private static void newPlaces() {
        sentence("Places of new ROWS are no, 0, 0.0, EMPTY.");
        for (int kind = 0; kind <= 9; kind++) {
            RobotCell x = numbers(64);
            ends(x, 0, MAKE, 1, 1, kind);
            for (int i = 0; i < 64; i++) {
                Check.same("place " + i + " of kind " + kind, x.place(1, i), kind >= 8 ? -1 : 0);
            }
        }
        RobotCell x = numbers(2, 1);
        ends(x, 0, GRID, 1, 1, 2, LOAD + 10, 2, 1, 0, LOAD + 10, 3, 1, 2);
        Check.same("a GRID's ROWS", x.place(2, 0) + x.place(3, 0), 0);
        Check.same("each is one of its own", x.slot(3, 2), 3);
    }

    /** So many things, up to 4,000, in a new controller; then p 0 to p 15 are EMPTY, n 0 to n 15 are 0. */
    private static RobotCell made(int things) {
        RobotCell x = numbers(things);
        ends(x, 0, REPEAT, 1, 3, 0, DROP, 0, 0, 0, END, 0, 0, 0, POSE, 0, 0, 0);
        Check.number(x, 1, 0);
        return x;
    }

    /* Each order that makes something; n 0 is 0, p 1 a ROW of INTS. */
    private static final int[][] MAKERS = {{MAKE, 2, 0, 0}, {MAKE, 2, 0, 9}, {GRID, 2, 0, 0}, {CLONE, 2, 1, 0},
        {POSE, 2, 0, 0}, {POSE, 2, 0, 1}, {DEVICE, 2, 0, 0}, {DEVICE, 2, 0, 1}, {DEVICE, 2, 0, 2}, {DEVICE, 2, 0, 3}};

    private static void thingsOfALife() {
        sentence("In all its life a controller makes at most 4,000 THINGS: one more is LIMIT");
        for (int[] maker : MAKERS) {
            RobotCell x = made(3998);
            ends(x, 0, MAKE, 1, 0, 4);
            ends(x, 0, maker);
            Check.that("the 4,000th is there", x.slot(2, 0) >= 0);
            ends(x, 0, DROP, 2, 0, 0);
            refuses(x, Check.LIMIT, maker[0], maker[1], maker[2], maker[3]);
        }
        RobotCell x = made(4000);
        ends(x, 0, TRY, 3, 3, 8, LOG, 3, 0, 0, END, 0, 0, 0, POSE, 0, 0, 0);
        Check.same("the LIMIT can be caught", x.logged(0), 8);
        RobotCell y = made(3999);
        ends(y, Check.SIZE, SET, 1, -1, -1, MAKE, 1, 1, 4);
        ends(y, Check.KIND, MAKE, 1, 1, 10);
        ends(y, Check.LIMIT, SET, 1, 0, 65, MAKE, 1, 1, 4);
        ends(y, 0, POSE, 1, 0, 0);
        Check.same("what failed has made nothing", y.slot(1, 0), 11);
    }

    private static void gridsOfALife() {
        sentence("(a GRID's ROWS are each one, too)");
        RobotCell x = made(3997);
        ends(x, Check.LIMIT, SET, 1, 0, 3, GRID, 1, 1, 2);
        Check.same("no GRID", x.slot(1, 0), -1);
        ends(x, 0, SET, 1, 0, 2, GRID, 1, 1, 2);
        Check.same("a GRID", x.slot(1, 1), 2);
        ends(x, Check.LIMIT, POSE, 2, 0, 0);
        RobotCell y = made(3999);
        ends(y, Check.LIMIT, SET, 1, 0, 1, GRID, 1, 1, 2);
        ends(y, 0, GRID, 1, 2, 1);
        Check.same("a GRID of no ROWS is one", y.slot(1, 1), 0);
        ends(y, Check.LIMIT, GRID, 1, 2, 1);
        RobotCell z = numbers(16, 235);
        ends(z, 0, REPEAT, 2, 2, 0, END, 0, 0, 0, GRID, 0, 1, 1);
        ends(z, 0, SET, 1, 0, 4, GRID, 0, 1, 1);
        ends(z, Check.LIMIT, POSE, 2, 0, 0);
    }

    private static void theLimitIsBehindAllElse() {
        sentence("one more is LIMIT, behind all else of its order");
        RobotCell x = made(3998);
        ends(x, 0, MAKE, 1, 0, 4, MAKE, 2, 0, 5, SET, 1, -1, -1);
        refuses(x, Check.KIND, MAKE, 3, 0, 10);
        refuses(x, Check.SIZE, MAKE, 3, 1, 4);
        RobotCell y = made(3999);
        ends(y, 0, MAKE, 2, 0, 5, SET, 1, -1, -1);
        refuses(y, Check.SIZE, GRID, 3, 1, 0);
        refuses(y, Check.SIZE, GRID, 3, 0, 1);
        RobotCell z = made(3999);
        ends(z, 0, MAKE, 2, 0, 5);
        refuses(z, Check.KIND, CLONE, 3, 2, 0);
        refuses(z, Check.NONE, CLONE, 3, 4, 0);
        ends(z, 0, MOVE, 3, 2, 0, DROP, 2, 0, 0, SORT, 1, 3, 0, LENGTH, 1, 3, 0);
        Check.same("others go on", z.slot(3, 0), 5);
    }

    private static void resetEndsNoLife() {
        sentence("(reset() is no end of it)");
        RobotCell x = made(4000);
        x.reset();
        ends(x, Check.LIMIT, POSE, 0, 0, 0);
        x.clear();
        x.reset();
        ends(x, Check.LIMIT, DEVICE, 0, 0, 0);
        RobotCell y = failed(2000);
        y.reset();
        ends(y, Check.STOPPED, RAISE, 0, 0, 0);
        RobotCell z = made(2000);
        z.reset();
        z.number(1, 0, 2000);
        ends(z, 0, REPEAT, 1, 2, 0, END, 0, 0, 0, MAKE, 2, 0, 4);
        ends(z, Check.LIMIT, POSE, 0, 0, 0);
    }

    /** So many faults have come, at most 2,000; n 1 is how many. */
    private static RobotCell failed(int faults) {
        RobotCell x = numbers(faults);
        ends(x, 0, REPEAT, 1, 2, 0, END, 0, 0, 0, TRY, 2, 4, 0, END, 0, 0, 0, RAISE, 0, 0, 0);
        return x;
    }

    private static void faultsOfALife() {
        sentence("and lets at most 2,000 FAULTS come: where one more would, the run is STOPPED.");
        RobotCell x = failed(1999);
        ends(x, Check.KIND, RAISE, 0, 0, 0);
        Check.same("the 2,000th has its order", x.fault(0), 0);
        ends(x, Check.STOPPED, LOG, 0, 0, 0, RAISE, 0, 0, 0);
        Check.same("the 2,001st has none", x.fault(0), -1);
        Check.same("the 2,001st's orders", x.fault(1), 2);
        int before = x.logs();
        ends(x, Check.STOPPED, TRY, 3, 3, 0, LOG, 0, 0, 0, END, 0, 0, 0, RAISE, 0, 0, 0);
        Check.same("it isn't caught", x.told(3), 0);
        ends(x, Check.STOPPED, SCOPE, 0, 2, 4, END, 0, 0, 0, RAISE, 0, 0, 0, END, 0, 0, 0, LOG, 0, 0, 0);
        Check.same("nothing is put right", x.logs(), before);
        ends(x, 0, LOG, 0, 0, 0);
        Check.same("what has no fault goes on", x.logs(), before + 1);
        RobotCell y = numbers(2001);
        ends(y, Check.STOPPED, REPEAT, 1, 2, 0, END, 0, 0, 0, TRY, 2, 5, 0, LOG, 2, 0, 0, END, 0, 0, 0,
                DIV, 0, 0, 0);
        Check.same("in one run, too", y.logs(), 2000);
    }

    private static void faultsThatGoOn() {
        sentence("(one that goes on .. is none more)");
        // Each fault goes on through a CALL, a REPEAT, a TRY of another kind and two SCOPES.
        int[] orders = {REPEAT, 1, 2, 0, END, 0, 0, 0, TRY, 2, 4, 0, END, 0, 0, 0, CALL, 0, 6, 0, END, 0, 0, 0,
            REPEAT, 1, 8, 0, END, 0, 0, 0, TRY, 2, 10, 5, END, 0, 0, 0, SCOPE, 0, 12, -1, END, 0, 0, 0,
            SCOPE, 0, 14, 13, END, 0, 0, 0, RAISE, 0, 0, 0};
        RobotCell x = numbers(999);
        ends(x, 0, orders);
        ends(x, 0, orders);
        ends(x, Check.KIND, RAISE, 0, 0, 0);
        ends(x, Check.KIND, RAISE, 0, 0, 0);
        ends(x, Check.STOPPED, RAISE, 0, 0, 0);
    }

    private static void faultsRaisedAgain() {
        sentence("(one that .. is raised AGAIN, is none more)");
        RobotCell x = failed(1998);
        // One that is KEPT, and that a hundred times again; at last it isn't caught.
        ends(x, Check.ZERO, SET, 1, 0, 100, TRY, 2, 5, 0, REPEAT, 1, 7, 0, AGAIN, 0, 0, 0, END, 0, 0, 0,
                DIV, 0, 0, 0, END, 0, 0, 0, TRY, 2, 9, 0, END, 0, 0, 0, AGAIN, 0, 0, 0);
        Check.same("its place", x.fault(0), 5);
        // Without one that is KEPT it is a new one: the 2,000th here.
        ends(x, Check.NONE, AGAIN, 0, 0, 0);
        ends(x, Check.STOPPED, AGAIN, 0, 0, 0);
    }

    private static void faultsOfEveryKindCount() {
        sentence("lets at most 2,000 FAULTS come (of whatever kind and order)");
        int[][] failing = {{LENGTH, 0, 15, 0}, {22, 0, 0, 0}, {LOAD + 4, 0, 4, 1}, {MAKE, 0, 3, 0}, {COPY, 4, 5, 0},
            {REM, 0, 0, 0}, {TON, 0, 5, 0}, {MAKE, 0, 2, 0}, {DEVICE, 0, 0, 0}};
        for (int kind = 1; kind <= 8; kind++) {
            RobotCell x = failed(1999);
            ends(x, 0, SET, 1, 0, 1, SET, 2, 0, 65, SET, 3, -1, -1, MAKE, 4, 1, 4, MAKE, 5, 1, 5, MSET, 5, 0, 0);
            ends(x, kind, failing[kind - 1]);
            ends(x, Check.STOPPED, failing[kind - 1]);
        }
        RobotCell deep = failed(1999);
        ends(deep, Check.DEEP, CALL, 0, 0, 0);
        ends(deep, Check.STOPPED, CALL, 0, 0, 0);
        RobotCell turns = failed(1999);
        ends(turns, Check.DEEP, SET, 1, 0, 1, REPEAT, 1, 0, 0);
        ends(turns, Check.STOPPED, REPEAT, 1, 0, 0);
        RobotCell both = failed(1998);
        ends(both, Check.ZERO, SCOPE, 0, 2, 4, END, 0, 0, 0, RAISE, 0, 0, 0, END, 0, 0, 0, DIV, 0, 0, 0);
        ends(both, Check.STOPPED, RAISE, 0, 0, 0);
    }

    private static void faultsByNumber() {
        sentence("FAULTS: 1 NONE: something EMPTY is used");
        refuses(new RobotCell(), 1, LENGTH, 0, 0, 0);
        sentence("2 KIND: a THING that isn't what is wanted");
        refuses(after(ALL_KINDS), 2, LENGTH, 0, 11, 0);
        sentence("3 BOUNDS: no such place");
        refuses(after(ALL_KINDS), 3, LOAD + 4, 0, 4, 1);
        sentence("4 SIZE: below 0");
        refuses(numbers(-1), 4, MAKE, 0, 1, 4);
        sentence("5 STORE: what doesn't belong into a row");
        refuses(after(ALL_KINDS), 5, STORE + 8, 11, 9, 0);
        sentence("6 ZERO");
        refuses(numbers(-1), 6, DIV, 1, 1, 0);
        sentence("7 LOST");
        refuses(measures(NO_NUMBER), 7, TON, 0, 1, 0);
        sentence("8 LIMIT");
        refuses(numbers(65), 8, MAKE, 0, 1, 4);
        sentence("9 DEEP");
        ends(new RobotCell(), 9, CALL, 0, 0, 0);
    }

    private static void kindAheadOfNone() {
        sentence("Of an order first KIND of the slots that have a THING of another kind (in the order told), then NONE");
        int[][] orders = {{STORE + 8, 13, 7, 0}, {STORE + 8, 7, 13, 0}, {STORE + 9, 13, 7, 0}, {STORE + 9, 7, 13, 0},
            {STORE + 10, 13, 7, 0}, {STORE + 10, 7, 13, 0}, {WRITE, 13, 7, 4}, {WRITE, 7, 13, 4}, {APART, 1, 13, 7},
            {APART, 1, 7, 13}};
        for (int[] order : orders) {
            RobotCell x = after(DEVICE, 13, 0, 0);
            refuses(x, Check.KIND, order[0], order[1], order[2], order[3]);
        }
        for (int[] order : orders) {
            refuses(after(POSE, 11, 0, 0), Check.NONE, order[0], 1, 2, order[3] == 4 ? 4 : 3);
        }
    }

    private static void noneAheadOfOthers() {
        sentence("then NONE, then others.");
        int[][] orders = {{LOAD + 0, 0, 15, 3}, {LOAD + 6, 0, 15, 3}, {LOAD + 8, 1, 15, 3}, {STORE + 5, 0, 15, 3},
            {STORE + 8, 11, 15, 3}, {STORE + 8, 15, 15, 3}, {COPY, 15, 11, 3}, {COPY, 11, 15, 3}, {CLONE, 1, 15, 0},
            {READ, 0, 15, 5}, {WRITE, 0, 15, 5}, {GO, 0, 15, 3}};
        for (int[] order : orders) {
            RobotCell x = after(POSE, 11, 0, 0, SET, 3, -1, -1, SET, 4, -1, -1, MSET, 3, 0, 0);
            refuses(x, Check.NONE, order[0], order[1], order[2], order[3]);
        }
        sentence("first KIND of the slots that have a THING of another kind, then .. others");
        int[][] others = {{LOAD + 0, 0, 11, 3}, {LOAD + 8, 1, 13, 3}, {STORE + 5, 0, 11, 3}, {STORE + 8, 13, 9, 3},
            {STORE + 9, 11, 9, 3}, {GO, 0, 11, 3}};
        for (int[] order : others) {
            RobotCell x = after(POSE, 11, 0, 0, DEVICE, 13, 0, 0, MAKE, 9, 0, 9, SET, 3, -1, -1, MSET, 3, 0, 0);
            refuses(x, Check.KIND, order[0], order[1], order[2], order[3]);
        }
    }
}
