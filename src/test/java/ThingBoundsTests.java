/** Section 2 of the document, orders 40 to 84 on rows and poses: a test for each sentence's edges. */
public final class ThingBoundsTests extends Bounds {
    private ThingBoundsTests() {
    }

    public static void main(String[] args) {
        makingKinds();
        makingSizes();
        grids();
        gridFaults();
        lengths();
        copyingRanges();
        copyFaultsInOrder();
        copyUnlike();
        copyBounds();
        copyLowestBits();
        copyRegisters();
        copyOverItself();
        copyStops();
        cloning();
        sorting();
        movingAndDropping();
        loadKinds();
        loadPlaces();
        loadsInto();
        storing();
        storingPoses();
        storingGrasps();
        storingRows();
        storeFaultsInOrder();
        newPoses();
        reading();
        readingForce();
        readingChains();
        readingNothing();
        writing();
        writingMarks();
        writingAfter();
        writingNothing();
        shifting();
        apart();
        Check.end();
    }

    private static void makingKinds() {
        sentence("40 MAKE: p a is a new ROW of kind c (0 .. 9; else KIND)");
        for (int kind = 0; kind <= 9; kind++) {
            RobotCell x = numbers(3);
            ends(x, 0, MAKE, 2, 1, kind);
            Check.same("kind", x.slot(2, 0), kind);
        }
        for (int kind : new int[] {10, 11, 12, 16, 17, -1, 256, Integer.MIN_VALUE, Integer.MAX_VALUE}) {
            refuses(numbers(3), Check.KIND, MAKE, 2, 1, kind);
        }
        refuses(numbers(-1), Check.KIND, MAKE, 2, 1, 10);
        refuses(numbers(65), Check.KIND, MAKE, 2, 1, -1);
    }

    private static void makingSizes() {
        sentence("of n b places (SIZE; above 64, of all 64 bits, LIMIT)");
        for (int places : new int[] {0, 1, 63, 64}) {
            for (int kind = 0; kind <= 9; kind++) {
                RobotCell x = numbers(places);
                ends(x, 0, MAKE, 2, 1, kind);
                Check.same("places", x.slot(2, 1), places);
                final RobotCell y = x;
                Check.fails("behind the last", IndexOutOfBoundsException.class, () -> y.place(2, places));
            }
        }
        for (int kind = 0; kind <= 9; kind++) {
            refuses(numbers(-1), Check.SIZE, MAKE, 2, 1, kind);
            refuses(numbers(65), Check.LIMIT, MAKE, 2, 1, kind);
        }
        for (long places : new long[] {-64, -(1L << 31), -(1L << 32), -(1L << 32) + 5, LEAST, LEAST + 5}) {
            refuses(numbers(places), Check.SIZE, MAKE, 2, 1, 4);
        }
        for (long places : new long[] {128, 1L << 31, 0xffffffffL, 1L << 32, (1L << 32) + 5, MOST}) {
            refuses(numbers(places), Check.LIMIT, MAKE, 2, 1, 4);
        }
    }

    private static void grids() {
        sentence("41 GRID: a new one of n b ROWS of n c INTS");
        long[][] sizes = {{0, 0}, {0, 16}, {1, 0}, {1, 1}, {16, 16}, {16, 0}, {3, 5}};
        for (long[] size : sizes) {
            RobotCell x = numbers(size[0], size[1]);
            ends(x, 0, GRID, 3, 1, 2);
            Check.same("kind", x.slot(3, 0), 10);
            Check.same("ROWS", x.slot(3, 1), size[0]);
            for (int i = 0; i < size[0]; i++) {
                Check.same("INTS", x.place(3, i), size[1]);
            }
        }
        RobotCell x = numbers(3, 5);
        ends(x, 0, GRID, 3, 1, 2, LOAD + 10, 4, 3, 15);
        Check.same("a ROW of INTS", x.slot(4, 0), 4);
        ends(x, 0, STORE + 4, 1, 4, 0, SET, 15, 0, 1, LOAD + 10, 5, 3, 15);
        Check.same("each one of its own", x.place(4, 0) * 10 + x.place(5, 0), 30);
    }

    private static void gridFaults() {
        sentence("(SIZE of either; LIMIT above 16)");
        long[][] below = {{-1, 1}, {1, -1}, {-1, -1}, {-1, 17}, {17, -1}, {0, -1}, {LEAST, 0}, {MOST, LEAST},
            {-(1L << 32), 1}, {1, -(1L << 32)}};
        for (long[] size : below) {
            refuses(numbers(size[0], size[1]), Check.SIZE, GRID, 3, 1, 2);
        }
        long[][] above = {{17, 1}, {1, 17}, {17, 17}, {0, 17}, {17, 0}, {1L << 32, 1}, {1, 1L << 32}, {MOST, 0},
            {0xffffffffL, 1}};
        for (long[] size : above) {
            refuses(numbers(size[0], size[1]), Check.LIMIT, GRID, 3, 1, 2);
        }
    }

    private static void lengths() {
        sentence("42 LENGTH: n a is how many places p b has (KIND: no ROW).");
        RobotCell x = after(ALL_KINDS);
        for (int kind = 1; kind <= 10; kind++) {
            ends(x, 0, SET, 3, 0, 9, LENGTH, 3, kind, 0);
            Check.same("LENGTH of kind " + kind, x.told(3), 2);
        }
        for (int kind = 11; kind <= 16; kind++) {
            refuses(after(ALL_KINDS), Check.KIND, LENGTH, 3, kind, 0);
        }
        refuses(new RobotCell(), Check.NONE, LENGTH, 3, 0, 0);
        RobotCell y = new RobotCell();
        ends(y, 0, SET, 3, 0, 9, MAKE, 1, 0, 9, LENGTH, 3, 1, 0);
        Check.same("LENGTH of none", y.told(3), 0);
    }

    /** p 1 and p 2 are ROWS of five INTS, 1 to 5 and 10; the numbers from n 4 on are the COPY's. */
    private static RobotCell twoRows(long first, long onto, long count) {
        RobotCell x = after(SET, 1, 0, 5, MAKE, 1, 1, 4, MAKE, 2, 1, 4, SET, 3, 0, 10,
                SET, 2, 0, 1, STORE + 4, 2, 1, 0, SET, 7, 0, 1, SET, 2, 0, 2, STORE + 4, 2, 1, 7,
                SET, 7, 0, 2, SET, 2, 0, 3, STORE + 4, 2, 1, 7, SET, 7, 0, 3, SET, 2, 0, 4, STORE + 4, 2, 1, 7,
                SET, 7, 0, 4, STORE + 4, 1, 1, 7, STORE + 4, 3, 2, 7);
        Check.number(x, 4, first);
        Check.number(x, 5, onto);
        Check.number(x, 6, count);
        return x;
    }

    private static long digits(RobotCell x, int slot) {
        long all = 0;
        for (int i = 0; i < x.slot(slot, 1); i++) {
            all = 100 * all + x.place(slot, i);
        }
        return all;
    }

    private static void copyingRanges() {
        sentence("43 COPY: n (c + 2) places from n c on of p a come to p b from n (c + 1) on");
        RobotCell x = twoRows(1, 2, 3);
        ends(x, 0, COPY, 1, 2, 4);
        Check.same("from 1 on, to 2 on, 3 of them", digits(x, 2), 20304);
        Check.same("the others stay", digits(x, 1), 102030405);
        x = twoRows(0, 0, 5);
        ends(x, 0, COPY, 1, 2, 4);
        Check.same("all of them", digits(x, 2), 102030405);
        x = twoRows(4, 0, 1);
        ends(x, 0, COPY, 1, 2, 4);
        Check.same("the last one", digits(x, 2), 500000010);
        x = twoRows(2, 2, 0);
        ends(x, 0, COPY, 1, 2, 4);
        Check.same("none", digits(x, 2), 10);
        for (int kind = 0; kind <= 7; kind++) {
            RobotCell y = numbers(2, 1, 0, 0, 1, 1);
            Check.measure(y, 1, -1.5);
            ends(y, 0, MAKE, 1, 1, kind, MAKE, 2, 1, kind, STORE + kind, 2, 1, 3, STORE + kind, 1, 1, kind < 6 ? 2 : 3,
                    COPY, 1, 2, 4);
            Check.same("kind " + kind, y.place(2, 1), y.place(1, 0));
            Check.same("kind " + kind, y.place(2, 0), 0);
        }
    }

    private static void copyFaultsInOrder() {
        sentence("NONE (either is EMPTY), STORE (..), BOUNDS (..)");
        int[][] orders = {{15, 11, Check.NONE}, {11, 15, Check.NONE}, {15, 15, Check.NONE}, {4, 15, Check.NONE},
            {11, 4, Check.STORE}, {4, 11, Check.STORE}, {13, 12, Check.STORE}, {4, 5, Check.STORE}, {4, 4, Check.BOUNDS}};
        for (int[] order : orders) {
            // The numbers are such as would be BOUNDS.
            RobotCell x = after(ALL_KINDS);
            ends(x, 0, DROP, 15, 0, 0, SET, 4, -1, -1, SET, 5, 0, 1, SET, 6, 0, 1);
            refuses(x, order[2], COPY, order[0], order[1], 4);
        }
    }

    private static void copyUnlike() {
        sentence("STORE (one is no ROW, or they are of unlike kinds: POSES, GRASPS, GRIDS are alike here)");
        for (int from = 1; from <= 16; from++) {
            for (int to = 1; to <= 16; to++) {
                boolean rows = from <= 10 && to <= 10;
                boolean alike = rows && (from == to || from >= 8 && to >= 8);
                RobotCell x = after(ALL_KINDS);
                // Of 0 places, so that nothing has to belong.
                ends(x, alike ? 0 : Check.STORE, COPY, from, to, 4);
            }
        }
    }

    private static void copyBounds() {
        sentence("BOUNDS (a number below 0, or a place beyond");
        long[][] fine = {{0, 0, 5}, {5, 0, 0}, {0, 5, 0}, {5, 5, 0}, {4, 4, 1}, {3, 0, 2}, {0, 3, 2}};
        for (long[] one : fine) {
            ends(twoRows(one[0], one[1], one[2]), 0, COPY, 1, 2, 4);
        }
        long[][] wrong = {{0, 0, 6}, {1, 0, 5}, {0, 1, 5}, {5, 0, 1}, {0, 5, 1}, {6, 0, 0}, {0, 6, 0}, {-1, 0, 0},
            {0, -1, 0}, {0, 0, -1}, {-1, 0, 1}, {0, -1, 1}, {-1, -1, 2}, {3, 0, -1}, {0x7fffffff, 0, 1},
            {0, 0x7fffffff, 1}, {1, 0, 0x7fffffff}, {0x7fffffff, 0x7fffffff, 0x7fffffff}, {-5, 0, 5}, {6, 0, -1}};
        for (long[] one : wrong) {
            refuses(twoRows(one[0], one[1], one[2]), Check.BOUNDS, COPY, 1, 2, 4);
        }
    }

    private static void copyLowestBits() {
        sentence("of the lowest 32 bits of each)");
        RobotCell x = twoRows((1L << 32) + 1, (5L << 32) + 2, (-1L << 32) + 3);
        ends(x, 0, COPY, 1, 2, 4);
        Check.same("from 1 on, to 2 on, 3 of them", digits(x, 2), 20304);
        refuses(twoRows(0x80000000L, 0, 1), Check.BOUNDS, COPY, 1, 2, 4);
        refuses(twoRows(0, 0xffffffffL, 1), Check.BOUNDS, COPY, 1, 2, 4);
        refuses(twoRows(0, 0, 0x80000000L), Check.BOUNDS, COPY, 1, 2, 4);
        ends(twoRows(LEAST, LEAST, LEAST), 0, COPY, 1, 2, 4);
    }

    private static void copyRegisters() {
        sentence("n (c + 2) .. n c .. n (c + 1) (each by its lowest 4 bits)");
        for (int c : new int[] {14, 15, -1, -2, Integer.MAX_VALUE, Integer.MAX_VALUE - 1, Integer.MIN_VALUE + 15}) {
            RobotCell x = twoRows(0, 0, 0);
            x.number(c, 0, 1);
            x.number(c + 1, 0, 2);
            x.number(c + 2, 0, 3);
            ends(x, 0, COPY, 1, 2, c);
            Check.same("c is " + c, digits(x, 2), 20304);
        }
    }

    private static void copyOverItself() {
        sentence("then one by one (as if all were taken first)");
        RobotCell x = twoRows(0, 1, 4);
        ends(x, 0, COPY, 1, 1, 4);
        Check.same("up", digits(x, 1), 101020304);
        x = twoRows(1, 0, 4);
        ends(x, 0, COPY, 1, 1, 4);
        Check.same("down", digits(x, 1), 203040505);
        x = twoRows(2, 2, 3);
        ends(x, 0, COPY, 1, 1, 4);
        Check.same("in its place", digits(x, 1), 102030405);
        for (int kind = 8; kind <= 9; kind++) {
            int[] orders = {SET, 1, 0, 4, MAKE, 1, 1, kind, POSE, 3, 0, 1, SET, 2, 0, 1, WRITE, 2, 3, 3, STORE + 8, 3, 1, 0,
                POSE, 4, 0, 1, SET, 2, 0, 2, WRITE, 2, 4, 3, SET, 7, 0, 1, STORE + 8, 4, 1, 7, POSE, 5, 0, 1,
                SET, 2, 0, 3, WRITE, 2, 5, 3, STORE + 8, 5, 1, 2, SET, 7, 0, 2, LOAD + 8, 9, 1, 2, STORE + 8, 9, 1, 7};
            RobotCell y = after(orders);
            Check.same("POSES", digits(y, 1), 1020303);
            y.number(5, 0, 1);
            y.number(6, 0, 3);
            ends(y, 0, COPY, 1, 1, 4);
            Check.same("POSES up", digits(y, 1), 1010203);
            RobotCell z = after(orders);
            z.number(4, 0, 1);
            z.number(6, 0, 3);
            ends(z, 0, COPY, 1, 1, 4);
            Check.same("POSES down", digits(z, 1), 2030303);
        }
    }

    /** p 8 is a ROW of POSES: a GRASP (mark 1), EMPTY, a POSE (mark 2), a GRASP. p 9 has four GRASPS (mark 3). */
    private static RobotCell posesAndGrasps() {
        RobotCell x = after(SET, 1, 0, 4, MAKE, 8, 1, 8, MAKE, 9, 1, 9, GRID, 10, 1, 0, POSE, 11, 0, 0, POSE, 12, 0, 1,
                POSE, 13, 0, 1, SET, 2, 0, 1, SET, 3, 0, 2, SET, 7, 0, 3, WRITE, 2, 12, 3, WRITE, 3, 11, 3,
                WRITE, 7, 13, 3, STORE + 8, 12, 8, 0, STORE + 8, 11, 8, 3, STORE + 8, 12, 8, 7,
                STORE + 9, 13, 9, 0, STORE + 9, 13, 9, 2, STORE + 9, 13, 9, 3, STORE + 9, 13, 9, 7);
        x.number(6, 0, 4);
        return x;
    }

    private static long marks(RobotCell x, int slot) {
        long all = 0;
        for (int i = 0; i < 4; i++) {
            all = 10 * all + x.place(slot, i);
        }
        return all;
    }

    private static void copyStops() {
        sentence("STORE at the first that doesn't belong: those ahead of it have come.");
        RobotCell x = posesAndGrasps();
        ends(x, Check.STORE, COPY, 8, 9, 4);
        // A GRASP and EMPTY (-1) have come, the POSE hasn't, nor what stands behind it.
        Check.same("GRASPS", marks(x, 9), 1000 - 100 + 30 + 3);
        Check.same("its order", x.fault(0), 0);
        RobotCell y = posesAndGrasps();
        y.number(6, 0, 2);
        ends(y, 0, COPY, 8, 9, 4);
        Check.same("GRASPS, two of them", marks(y, 9), 1000 - 100 + 30 + 3);
        RobotCell z = posesAndGrasps();
        ends(z, 0, COPY, 9, 8, 4);
        Check.same("GRASPS belong into POSES", marks(z, 8), 3333);
        RobotCell w = posesAndGrasps();
        w.number(4, 0, 1);
        w.number(6, 0, 3);
        ends(w, Check.STORE, COPY, 8, 10, 4);
        Check.same("EMPTY into a GRID", w.place(10, 0), -1);
        Check.same("no POSE into a GRID", w.place(10, 1), 0);
        RobotCell v = posesAndGrasps();
        ends(v, Check.STORE, COPY, 10, 8, 4);
        Check.same("no ROW into POSES", v.place(8, 0), 1);
        RobotCell u = posesAndGrasps();
        ends(u, Check.STORE, COPY, 10, 9, 4);
        Check.same("no ROW into GRASPS", u.place(9, 0), 3);
        RobotCell s = posesAndGrasps();
        s.number(5, 0, 1);
        ends(s, Check.BOUNDS, COPY, 8, 9, 4);
        Check.same("BOUNDS ahead of it: none has come", marks(s, 9), 3333);
    }

    private static void cloning() {
        sentence("44 CLONE: p a is a new ROW of INTS like p b.");
        RobotCell x = twoRows(0, 0, 0);
        ends(x, 0, CLONE, 3, 1, 0, STORE + 4, 3, 1, 0);
        Check.same("like it", digits(x, 3), 102030405);
        Check.same("kind", x.slot(3, 0), 4);
        Check.same("one of its own", x.slot(3, 2), 3);
        Check.same("what changes later", x.place(1, 0), 10);
        ends(x, 0, CLONE, 1, 1, 0);
        Check.same("in its own place", digits(x, 1), 1002030405L);
        RobotCell y = new RobotCell();
        ends(y, 0, MAKE, 1, 0, 4, CLONE, 2, 1, 0);
        Check.same("of no places", y.slot(2, 1), 0);
        for (int kind = 1; kind <= 16; kind++) {
            if (kind != 4) {
                refuses(after(ALL_KINDS), Check.KIND, CLONE, 3, kind, 0);
            }
        }
        RobotCell z = numbers(2);
        ends(z, 0, MAKE, 2, 1, 0);
        refuses(z, Check.KIND, CLONE, 3, 2, 0);
        refuses(new RobotCell(), Check.NONE, CLONE, 3, 2, 0);
    }

    private static void sorting() {
        sentence("45 SORT: n a is p b's kind, -1 if it is EMPTY.");
        RobotCell x = after(ALL_KINDS);
        for (int kind = 1; kind <= 16; kind++) {
            ends(x, 0, SORT, 3, kind, 0);
            Check.same("SORT", x.told(3), kind);
        }
        RobotCell y = new RobotCell();
        ends(y, 0, SORT, 3, 1, 0, MAKE, 1, 0, 0, SORT, 4, 1, 0);
        Check.same("EMPTY", y.told(3), -1);
        Check.same("SIGNALS", y.told(4), 0);
    }

    private static void movingAndDropping() {
        sentence("46 MOVE: p a is what p b has.");
        RobotCell x = after(POSE, 1, 0, 0, MOVE, 2, 1, 0, MOVE, 1, 1, 0, POSE, 3, 0, 0, MOVE, 3, 9, 0);
        Check.same("the same one", x.slot(2, 2), 1);
        Check.same("what is EMPTY, too", x.slot(3, 0), -1);
        sentence("47 DROP: p a is EMPTY.");
        ends(x, 0, DROP, 1, 0, 0, DROP, 9, 0, 0);
        Check.same("EMPTY", x.slot(1, 0), -1);
        Check.same("others have it", x.slot(2, 2), 2);
    }

    private static void loadKinds() {
        sentence("48 + k LOAD, k 0 .. 10: p b must be a ROW of kind k (8: or of GRASPS)");
        for (int k = 0; k <= 10; k++) {
            for (int kind = 0; kind <= 16; kind++) {
                RobotCell x = after(ALL_KINDS);
                if (kind == 0) {
                    ends(x, 0, MAKE, 0, 1, 0);
                }
                boolean fits = k == kind || k == 8 && kind == 9;
                Check.same("LOAD " + k + " of kind " + kind, Check.again(x, LOAD + k, 2, kind, 3), fits ? 0 : Check.KIND);
            }
            refuses(numbers(1), Check.NONE, LOAD + k, 2, 3, 1);
        }
    }

    private static void loadPlaces() {
        sentence("its place n c (lowest 32 bits)");
        for (int kind = 0; kind <= 10; kind++) {
            int[] make = {SET, 1, 0, 2, kind == 10 ? GRID : MAKE, 1, 1, kind == 10 ? 1 : kind};
            for (long i : new long[] {0, 1, 1L << 32, (-7L << 32) + 1, LEAST}) {
                RobotCell x = after(make);
                Check.number(x, 3, i);
                ends(x, 0, LOAD + kind, 2, 1, 3);
                ends(x, 0, STORE + kind, 9, 1, 3);
            }
            for (long i : new long[] {2, -1, 0xffffffffL, 0x80000000L, 64, 0x7fffffff, (1L << 32) + 2, MOST}) {
                RobotCell x = after(make);
                Check.number(x, 3, i);
                refuses(x, Check.BOUNDS, LOAD + kind, 2, 1, 3);
                refuses(x, Check.BOUNDS, STORE + kind, 9, 1, 3);
            }
            RobotCell none = after(SET, 1, 0, 0, kind == 10 ? GRID : MAKE, 1, 1, kind == 10 ? 1 : kind);
            refuses(none, Check.BOUNDS, LOAD + kind, 2, 1, 3);
        }
    }

    private static void loadsInto() {
        sentence("comes into n a (0 to 5; a signal as 0, 1), m a (6, 7), p a (8 to 10)");
        for (int kind = 0; kind <= 10; kind++) {
            RobotCell x = numbers(1, -3);
            Check.measure(x, 2, -3);
            ends(x, 0, kind == 10 ? GRID : MAKE, 1, 1, kind == 10 ? 1 : kind, POSE, 2, 0, 1);
            if (kind < 10) {
                ends(x, 0, STORE + kind, 2, 1, 0);
            }
            ends(x, 0, LOAD + kind, 5, 1, 0);
            long[] numbers = {1, 65533, -3, -3, -3, -3, 0, 0, 0, 0, 0};
            Check.same("n a of kind " + kind, x.told(5), numbers[kind]);
            Check.bits("m a of kind " + kind, x.bits(5), kind == 6 || kind == 7 ? -3 : 0);
            Check.same("p a of kind " + kind, x.slot(5, 0), kind == 10 ? 4 : kind >= 8 ? 12 : -1);
            Check.same("p a of kind " + kind, x.slot(5, 2), kind == 10 ? 5 : kind >= 8 ? 2 : -1);
        }
        RobotCell y = numbers(1);
        ends(y, 0, MAKE, 1, 1, 8, POSE, 5, 0, 0, LOAD + 8, 5, 1, 0);
        Check.same("EMPTY comes, too", y.slot(5, 0), -1);
    }

    private static void storing() {
        sentence("64 + k STORE: 0 whether n a isn't 0; 1 to 5 n a's lowest bits");
        long[] numbers = {0x12345_89abcdefL, LEAST, -1, 0x8000, 0x80, 0};
        long[][] wants = {{1, 0xcdef, -17, -12817, (int) 0x89abcdefL, 0x12345_89abcdefL}, {1, 0, 0, 0, 0, LEAST},
            {1, 0xffff, -1, -1, -1, -1}, {1, 0x8000, 0, -0x8000, 0x8000, 0x8000}, {1, 0x80, -0x80, 0x80, 0x80, 0x80},
            {0, 0, 0, 0, 0, 0}};
        for (int i = 0; i < numbers.length; i++) {
            for (int kind = 0; kind <= 5; kind++) {
                RobotCell x = numbers(1, numbers[i]);
                ends(x, 0, MAKE, 1, 1, kind, STORE + kind, 2, 1, 0);
                Check.same("kind " + kind, x.place(1, 0), wants[i][kind]);
            }
        }
        sentence("6 the nearest to m a; 7 m a");
        RobotCell x = measures(1 + 0x1.0000001p-24, NO_NUMBER);
        x.number(1, 0, 2);
        ends(x, 0, MAKE, 1, 1, 6, MAKE, 2, 1, 7, STORE + 6, 1, 1, 0, STORE + 7, 1, 2, 0, SET, 3, 0, 1,
                STORE + 6, 2, 1, 3, STORE + 7, 2, 2, 3);
        Check.same("SAMPLES", x.place(1, 0), 0x3f800001);
        Check.bits("MEASURES", x.place(2, 0), 1 + 0x1.0000001p-24);
        Check.same("a LOST sample", x.place(1, 1), 0x7fc00000);
        Check.same("a LOST measure", x.place(2, 1), Check.LOST_BITS);
    }

    private static void storingPoses() {
        sentence("8 p a, a POSE or EMPTY (into a ROW of GRASPS a plain POSE: STORE)");
        RobotCell x = after(ALL_KINDS);
        ends(x, 0, STORE + 8, 11, 8, 9, STORE + 8, 12, 8, 2, STORE + 8, 12, 9, 9);
        Check.same("a GRASP into GRASPS", x.place(9, 0), 0);
        refuses(x, Check.STORE, STORE + 8, 11, 9, 9);
        ends(x, 0, DROP, 3, 0, 0, STORE + 8, 3, 8, 9, STORE + 8, 3, 9, 9);
        Check.same("EMPTY into POSES", x.place(8, 0), -1);
        Check.same("EMPTY into GRASPS", x.place(9, 0), -1);
        for (int kind = 1; kind <= 16; kind++) {
            if (kind != 11 && kind != 12) {
                refuses(after(ALL_KINDS), Check.KIND, STORE + 8, kind, 8, 9);
            }
        }
    }

    private static void storingGrasps() {
        sentence("9 p a, a GRASP or EMPTY");
        RobotCell x = after(ALL_KINDS);
        ends(x, 0, STORE + 9, 12, 9, 9);
        Check.same("a GRASP", x.place(9, 0), 0);
        ends(x, 0, DROP, 3, 0, 0, STORE + 9, 3, 9, 9);
        Check.same("EMPTY", x.place(9, 0), -1);
        for (int kind = 1; kind <= 16; kind++) {
            if (kind != 12) {
                refuses(after(ALL_KINDS), Check.KIND, STORE + 9, kind, 9, 9);
            }
        }
        refuses(after(ALL_KINDS), Check.KIND, STORE + 9, 12, 8, 9);
    }

    private static void storingRows() {
        sentence("10 p a, a ROW of INTS or EMPTY");
        RobotCell x = after(ALL_KINDS);
        ends(x, 0, MAKE, 3, 9, 4, STORE + 10, 3, 10, 9);
        Check.same("a ROW of INTS of another length", x.place(10, 0), 0);
        ends(x, 0, DROP, 3, 0, 0, STORE + 10, 3, 10, 9);
        Check.same("EMPTY", x.place(10, 0), -1);
        for (int kind = 1; kind <= 16; kind++) {
            if (kind != 4) {
                refuses(after(ALL_KINDS), Check.KIND, STORE + 10, kind, 10, 9);
            }
        }
        RobotCell y = after(ALL_KINDS);
        ends(y, 0, MAKE, 0, 1, 0);
        refuses(y, Check.KIND, STORE + 10, 0, 10, 9);
    }

    private static void storeFaultsInOrder() {
        sentence("(p a's KIND goes ahead of p b's; BOUNDS ahead of STORE.)");
        RobotCell x = after(ALL_KINDS);
        ends(x, 0, DROP, 3, 0, 0);
        refuses(x, Check.KIND, STORE + 8, 13, 3, 1);
        refuses(x, Check.KIND, STORE + 8, 13, 14, 1);
        RobotCell y = after(ALL_KINDS);
        // n 1 is 2, no place; n 9 is 0.
        refuses(y, Check.BOUNDS, STORE + 8, 11, 9, 1);
        refuses(y, Check.STORE, STORE + 8, 11, 9, 9);
        // Numbers and measures have no slot for p a: what p a has is nothing to them.
        for (int kind = 1; kind <= 7; kind++) {
            ends(after(ALL_KINDS), 0, STORE + kind, 13, kind, 9);
        }
    }

    private static void newPoses() {
        sentence("80 POSE: p a is a new POSE, if c is odd a GRASP: x, y, angle, force 0, mark 0, after EMPTY.");
        for (int c : new int[] {0, 1, 2, 3, -1, -2, Integer.MIN_VALUE, Integer.MAX_VALUE}) {
            boolean odd = c % 2 != 0;
            RobotCell x = new RobotCell();
            for (int r = 1; r < 6; r++) {
                Check.measure(x, r, 7);
            }
            ends(x, 0, SET, 4, 0, 7, POSE, 1, 0, c, POSE, 5, 0, 0, READ, 1, 1, 0, READ, 2, 1, 1, READ, 3, 1, 2,
                    READ, 4, 1, 3, READ, 5, 1, 4);
            Check.same("kind by " + c, x.slot(1, 0), odd ? 12 : 11);
            Check.same("x, y, angle", x.bits(1) | x.bits(2) | x.bits(3), 0);
            Check.same("mark", x.told(4), 0);
            Check.same("after", x.slot(5, 0), -1);
            ends(x, odd ? 0 : Check.KIND, READ, 5, 1, 5);
            Check.bits("force", x.bits(5), odd ? 0 : 7);
        }
    }

    /** p 11 is a POSE, p 12 a GRASP behind it: x 1, y -2, angle LOST, mark -7; force 3.5. */
    private static RobotCell posed() {
        return after(POSE, 11, 0, 0, POSE, 12, 0, 1, MSET, 1, 1, 1, MSET, 2, -2, 1, MSET, 3, 0, 0, MSET, 4, 7, 2,
                SET, 5, -1, -7, WRITE, 1, 11, 0, WRITE, 2, 11, 1, WRITE, 3, 11, 2, WRITE, 5, 11, 3, WRITE, 12, 11, 4,
                WRITE, 4, 12, 5);
    }

    private static void reading() {
        sentence("81 READ: of p b: by the lowest 3 bits of c 0 x, 1 y, 2 angle: m a; 3 mark: n a; 4 after: p a");
        for (int more : new int[] {0, 8, -8, Integer.MIN_VALUE, 1 << 30}) {
            RobotCell x = posed();
            ends(x, 0, READ, 6, 11, more, READ, 7, 11, 1 + more, READ, 8, 11, 2 + more, READ, 6, 11, 3 + more,
                    READ, 6, 11, 4 + more, READ, 9, 12, 5 + more, READ, 7, 11, 6 + more);
            Check.bits("x", x.bits(6), 1);
            Check.bits("y", x.bits(7), -2);
            Check.same("angle", x.bits(8), Check.LOST_BITS);
            Check.same("mark", x.told(6), -7);
            Check.same("after", x.slot(6, 0), 12);
            Check.bits("force", x.bits(9), 3.5);
            Check.same("how many", x.told(7), 2);
        }
        for (int part = 0; part < 8; part++) {
            refuses(new RobotCell(), Check.NONE, READ, 1, 2, part);
            for (int kind = 1; kind <= 16; kind++) {
                if (kind != 11 && kind != 12) {
                    refuses(after(ALL_KINDS), Check.KIND, READ, 1, kind, part);
                }
            }
        }
    }

    private static void readingForce() {
        sentence("5 force (of a GRASP: KIND)");
        refuses(posed(), Check.KIND, READ, 1, 11, 5);
        refuses(posed(), Check.KIND, WRITE, 1, 11, 5);
        ends(posed(), 0, READ, 1, 12, 5, WRITE, 1, 12, 5);
    }

    /** So many POSES in a row by after, the first in p 1, the last in p 3; n 1 how many, n 2 what READ 6 tells. */
    private static RobotCell chain(int poses) {
        RobotCell x = numbers(poses - 1);
        ends(x, 0, POSE, 1, 0, 0, MOVE, 3, 1, 0, REPEAT, 1, 5, 0, READ, 2, 1, 6, END, 0, 0, 0,
                POSE, 2, 0, 0, WRITE, 1, 2, 4, MOVE, 1, 2, 0);
        return x;
    }

    private static void readingChains() {
        sentence("6 how many POSES one comes to by after, itself too (in a ring each time anew; at most 100): n a");
        for (int poses : new int[] {1, 2, 99, 100, 101, 300}) {
            Check.same(poses + " POSES", chain(poses).told(2), Math.min(poses, 100));
        }
        RobotCell x = chain(100);
        ends(x, 0, READ, 4, 1, 4, READ, 2, 4, 6);
        Check.same("from the second on", x.told(2), 99);
        for (int ring : new int[] {1, 2, 3, 100, 101}) {
            RobotCell y = chain(ring);
            ends(y, 0, WRITE, 1, 3, 4, READ, 2, 1, 6, READ, 4, 3, 6);
            Check.same("a ring of " + ring, y.told(2), 100);
            Check.same("a ring of " + ring, y.told(4), 100);
        }
        RobotCell z = chain(3);
        ends(z, 0, WRITE, 3, 3, 4, READ, 2, 1, 6);
        Check.same("into a ring", z.told(2), 100);
    }

    private static void readingNothing() {
        sentence("7 nothing, but p b's KIND and NONE.");
        RobotCell x = posed();
        long[] before = state(x);
        ends(x, 0, READ, 1, 11, 7, READ, 11, 12, 7);
        Check.that("nothing", java.util.Arrays.equals(before, state(x)));
        refuses(posed(), Check.NONE, READ, 1, 2, 7);
        refuses(after(ALL_KINDS), Check.KIND, READ, 1, 4, 7);
    }

    private static void writing() {
        sentence("82 WRITE: likewise into it");
        for (int more : new int[] {0, 8, -8, Integer.MIN_VALUE}) {
            RobotCell x = measures(1.5, -0.0, NO_NUMBER, -INFINITY);
            x.number(5, 0, 9);
            ends(x, 0, POSE, 12, 0, 1, WRITE, 1, 12, more, WRITE, 2, 12, 1 + more, WRITE, 3, 12, 2 + more,
                    WRITE, 5, 12, 3 + more, WRITE, 12, 12, 4 + more, WRITE, 4, 12, 5 + more);
            ends(x, 0, READ, 6, 12, 0, READ, 7, 12, 1, READ, 8, 12, 2, READ, 9, 12, 3, READ, 10, 12, 4, READ, 9, 12, 5);
            Check.bits("x", x.bits(6), 1.5);
            Check.bits("y", x.bits(7), -0.0);
            Check.bits("angle", x.bits(8), NO_NUMBER);
            Check.same("mark", x.told(9), 9);
            Check.same("after", x.slot(12, 2), 10);
            Check.bits("force", x.bits(9), -INFINITY);
        }
        for (int part = 0; part < 8; part++) {
            refuses(new RobotCell(), Check.NONE, WRITE, 1, 2, part);
            for (int kind = 1; kind <= 16; kind++) {
                if (kind != 11 && kind != 12) {
                    RobotCell x = after(ALL_KINDS);
                    refuses(x, Check.KIND, WRITE, 11, kind, part);
                }
            }
        }
    }

    private static void writingMarks() {
        sentence("(mark: 32 bits");
        long[][] marks = {{0x7fffffffL, 0x7fffffffL}, {0x80000000L, -0x80000000L}, {0xffffffffL, -1}, {1L << 32, 0},
            {-1, -1}, {LEAST, 0}, {-0x80000001L, 0x7fffffffL}};
        for (long[] mark : marks) {
            RobotCell x = numbers(mark[0], 1);
            ends(x, 0, POSE, 1, 0, 0, WRITE, 1, 1, 3, READ, 3, 1, 3, MAKE, 2, 2, 8, STORE + 8, 1, 2, 0);
            Check.same("READ", x.told(3), mark[1]);
            Check.same("place", x.place(2, 0), mark[1]);
        }
    }

    private static void writingAfter() {
        sentence("after: p a, a POSE or EMPTY, whose KIND goes ahead");
        RobotCell x = posed();
        ends(x, 0, WRITE, 15, 11, 4, READ, 1, 11, 6);
        Check.same("EMPTY", x.told(1), 1);
        ends(x, 0, WRITE, 11, 12, 4, READ, 1, 12, 6);
        Check.same("a POSE behind a GRASP", x.told(1), 2);
        for (int kind = 1; kind <= 16; kind++) {
            if (kind != 11 && kind != 12) {
                refuses(after(ALL_KINDS), Check.KIND, WRITE, kind, 11, 4);
                // Ahead of NONE of p b, too: slot 3 is EMPTY then.
                RobotCell y = after(ALL_KINDS);
                ends(y, 0, DROP, 3, 0, 0);
                refuses(y, kind == 3 ? Check.NONE : Check.KIND, WRITE, kind, 3, 4);
            }
        }
        // In other parts it is no slot that a names.
        for (int part : new int[] {0, 1, 2, 3, 6, 7}) {
            ends(after(ALL_KINDS), 0, WRITE, 13, 11, part);
        }
    }

    private static void writingNothing() {
        sentence("6, 7 nothing)");
        for (int part = 6; part <= 7; part++) {
            RobotCell x = posed();
            long[] before = state(x);
            ends(x, 0, WRITE, 4, 11, part, WRITE, 4, 12, part);
            Check.that("nothing", java.util.Arrays.equals(before, state(x)));
            ends(x, 0, READ, 6, 11, 0, READ, 7, 11, 1, READ, 8, 11, 2, READ, 6, 11, 3, READ, 7, 11, 6, READ, 9, 12, 5);
            Check.bits("x", x.bits(6), 1);
            Check.bits("y", x.bits(7), -2);
            Check.bits("angle", x.bits(8), NO_NUMBER);
            Check.same("mark", x.told(6), -7);
            Check.same("after", x.told(7), 2);
            Check.bits("force", x.bits(9), 3.5);
        }
    }

    private static void shifting() {
        sentence("83 SHIFT: x, y of p a are more by m b, m c.");
        double[][] by = {{1, 2, 2, 0.0}, {-1, 2, 0.0, 0.0}, {INFINITY, NO_NUMBER, INFINITY, NO_NUMBER},
            {0x1p-53, -0x1p-53, 1, -2}, {Double.MAX_VALUE, -Double.MAX_VALUE, Double.MAX_VALUE, -Double.MAX_VALUE}};
        for (double[] one : by) {
            RobotCell x = posed();
            Check.measure(x, 6, one[0]);
            Check.measure(x, 7, one[1]);
            ends(x, 0, SHIFT, 11, 6, 7, READ, 8, 11, 0, READ, 9, 11, 1);
            Check.bits("x", x.bits(8), one[2]);
            Check.bits("y", x.bits(9), one[3]);
        }
        refuses(new RobotCell(), Check.NONE, SHIFT, 1, 2, 3);
        for (int kind = 1; kind <= 16; kind++) {
            if (kind != 11 && kind != 12) {
                refuses(after(ALL_KINDS), Check.KIND, SHIFT, kind, 2, 3);
            }
        }
    }

    private static void apart(double x1, double y1, double x2, double y2, double want) {
        RobotCell x = measures(x1, y1, x2, y2);
        ends(x, 0, POSE, 1, 0, 0, POSE, 2, 0, 1, WRITE, 1, 1, 0, WRITE, 2, 1, 1, WRITE, 3, 2, 0, WRITE, 4, 2, 1,
                APART, 5, 1, 2, APART, 6, 1, 1);
        Check.bits("APART", x.bits(5), want);
        Check.bits("APART from itself", x.bits(6), Double.isFinite(x1) && Double.isFinite(y1) ? 0.0 : NO_NUMBER);
    }

    private static void apart() {
        sentence("84 APART: m a is the root of the sum of the squares of the differences (as they come, rounded each).");
        apart(1, 1, 4, 5, 5);
        apart(4, 5, 1, 1, 5);
        apart(0, 0, 1, 1, 0x1.6a09e667f3bcdp0);
        apart(0x1p600, 0, 0, 0, INFINITY);
        apart(0x1p-600, 0, 0, 0, 0.0);
        apart(0x1p511, 0, -0x1p511, 0, INFINITY);
        apart(0x1p-53, 0, 1, 0, 1 - 0x1p-53);
        apart(0x1p-54, 0, 1, 0, 1);
        apart(INFINITY, 0, 1, 0, INFINITY);
        apart(INFINITY, 0, INFINITY, 0, NO_NUMBER);
        apart(0, NO_NUMBER, 1, 0, NO_NUMBER);
        for (int kind = 1; kind <= 16; kind++) {
            if (kind != 11 && kind != 12) {
                refuses(after(ALL_KINDS), Check.KIND, APART, 3, kind, 11);
                refuses(after(ALL_KINDS), Check.KIND, APART, 3, 11, kind);
            }
        }
        refuses(posed(), Check.NONE, APART, 3, 11, 1);
        refuses(posed(), Check.NONE, APART, 3, 1, 11);
    }
}
