/** The orders of section 2 and the devices of section 3, one by one, with the faults in their order. */
public final class OrderTests {
    private static final int END = 0;
    private static final int SET = 1;
    private static final int CALL = 14;
    private static final int REPEAT = 15;
    private static final int TRY = 16;
    private static final int SCOPE = 17;
    private static final int RAISE = 18;
    private static final int AGAIN = 19;
    private static final int LOG = 20;

    private OrderTests() {
    }

    public static void main(String[] args) {
        arithmetic();
        skipping();
        blocks();
        repeating();
        trying();
        scopes();
        depth();
        unknownOperations();
        makingRows();
        grids();
        loadingNumbers();
        loadingThings();
        storeFaults();
        copying();
        copyingThings();
        cloning();
        poses();
        poseFaults();
        axes();
        railsAndWrists();
        resting();
        probes();
        deviceFaults();
        Check.end();
    }

    private static void two(int operation, long left, long right, long want) {
        RobotCell x = Check.cell(operation, 17, 2, -13);
        Check.number(x, 2, left);
        Check.number(x, 3, right);
        String what = "operation " + operation + " of " + left + ", " + right;
        Check.same(what, x.run(1), 0);
        Check.same(what, x.told(1), want);
    }

    private static void arithmetic() {
        long least = Long.MIN_VALUE;
        long most = Long.MAX_VALUE;
        two(2, most, 1, least);
        two(3, least, 1, most);
        two(4, most, 2, -2);
        two(5, -7, 2, -3);
        two(5, least, -1, least);
        two(6, -7, 2, -1);
        two(6, 7, -2, 1);
        two(6, least, -1, 0);
        two(7, 12, 10, 8);
        two(8, 12, 10, 6);
        two(9, 1, 63, least);
        two(9, 1, 64, 1);
        two(9, 1, -1, least);
        two(10, -8, 1, -4);
        two(10, least, 127, -1);
        two(11, -1, 0, 1);
        two(11, 0, 0, 0);
        two(12, 5, 5, 1);
        two(12, 5, 1L << 32 | 5, 0);
        Check.outcome("DIV by 0", Check.ZERO, 0, 5, 0, 0, 0);
        Check.outcome("REM by 0", Check.ZERO, 0, 6, 0, 0, 0);
        RobotCell x = Check.cell(SET, 3, -2, -1);
        x.run(1);
        Check.same("SET", x.told(3), -2L * (1L << 32) + 0xffffffffL);
    }

    private static void skipping() {
        RobotCell x = Check.cell(SET, 0, 0, 1, 13, 0, 2 + 256, 0, END, 0, 0, 0, 18, 0, 0, 0, LOG, 0, 0, 0);
        Check.same("SKIP", x.run(3), 0);
        Check.same("SKIP passes two", x.logs(), 1);
        Check.same("SKIP's passed ones aren't done", x.fault(1), 3);
        Check.same("SKIP of 0", Check.again(x, 13, 5, 1, 0, LOG, 0, 0, 0), 0);
        Check.same("SKIP of 0 passes none", x.logs(), 2);
        Check.same("SKIP beyond the end", Check.again(x, SET, 0, 0, 1, 13, 0, -1, 0, LOG, 0, 0, 0), 0);
        Check.same("SKIP beyond the end", x.logs(), 2);
        Check.same("SKIP all 64 bits", Check.again(x, SET, 0, 1, 0, 13, 0, 1, 0, LOG, 0, 0, 0), 0);
        Check.same("SKIP all 64 bits", x.logs(), 2);
    }

    private static void blocks() {
        RobotCell x = Check.cell(CALL, 0, 3, 0, LOG, 1, 0, 0, END, 0, 0, 0, LOG, 0, 0, 0);
        Check.same("CALL", x.run(100), 0);
        Check.same("CALL", x.logs(), 2);
        Check.same("CALL: a block's end is not an order", x.fault(1), 4);
        Check.same("CALL below 0", Check.again(x, CALL, 0, -1, 0, CALL, 0, Integer.MIN_VALUE, 0), 0);
        Check.same("CALL beyond", Check.again(x, CALL, 0, 2, 0, CALL, 0, Integer.MAX_VALUE, 0), 0);
        Check.same("CALL beyond", x.fault(1), 2);
        Check.same("CALL faults at the inner order", Check.again(x, CALL, 0, 2, 0, END, 0, 0, 0, 42, 0, 0, 0),
                Check.NONE);
        Check.same("CALL faults at the inner order", x.fault(0), 2);
    }

    private static void repeating() {
        int[] body = {SET, 2, 0, 1, REPEAT, 1, 3, 0, END, 0, 0, 0, 2, 0, 0, 2, 3, 1, 1, 2};
        RobotCell x = Check.cell(body);
        Check.number(x, 1, 5);
        Check.same("REPEAT", x.run(100), 0);
        Check.same("REPEAT as often as at its beginning", x.told(0), 5);
        Check.same("REPEAT changed", x.told(1), 0);
        Check.number(x, 1, -5);
        Check.same("REPEAT below 0", x.run(100), 0);
        Check.same("REPEAT below 0", x.told(0), 5);
        Check.number(x, 1, Long.MAX_VALUE);
        Check.same("REPEAT without end", x.run(20000), Check.STOPPED);
        Check.same("REPEAT takes fuel for turns", x.told(0), 5 + 6666);
        Check.number(x, 1, Long.MAX_VALUE);
        Check.same("REPEAT nothing", Check.again(x, REPEAT, 1, -1, 0), Check.STOPPED);
        Check.same("REPEAT nothing", x.fault(1), 1);
        Check.number(x, 1, 19999);
        Check.same("REPEAT just enough", x.run(20000), 0);
        Check.same("REPEAT one too few", x.run(19999), Check.STOPPED);
    }

    private static void trying() {
        RobotCell x = Check.cell(TRY, 3, 2, 0, LOG, 3, 0, 0, 5, 0, 0, 0);
        // The block runs on over order 1's end: order 2 is outside of the TRY then.
        Check.same("TRY", x.run(100), Check.ZERO);
        Check.same("TRY any", Check.again(x, TRY, 3, 3, 0, LOG, 3, 0, 0, END, 0, 0, 0, 5, 0, 0, 0), 0);
        Check.same("TRY's kind", x.logged(1), 6);
        Check.same("TRY: orders done", x.fault(1), 4);
        Check.same("TRY its kind", Check.again(x, TRY, 4, 2, 6, END, 0, 0, 0, 6, 0, 0, 0), 0);
        Check.same("TRY its kind", x.told(4), 6);
        for (int other : new int[] {1, 5, 7, 9, 10, -1, 256 + 6, 16 + 6}) {
            Check.same("TRY another", Check.again(x, TRY, 5, 2, other, END, 0, 0, 0, 6, 0, 0, 0), Check.ZERO);
            Check.same("TRY another", x.fault(0), 2);
            Check.same("TRY another", x.told(5), 0);
        }
        Check.same("TRY no STOPPED", Check.again(x, SET, 0, 1, 1, TRY, 5, 3, 0, END, 0, 0, 0, REPEAT, 0, -1, 0),
                Check.STOPPED);
        Check.same("TRY without a fault", Check.again(x, SET, 5, 0, 44, TRY, 5, 7, 0), 0);
        Check.same("TRY without a fault", x.told(5), 44);
        Check.same("AGAIN without one", Check.again(x, LOG, 0, 0, 0, AGAIN, 0, 0, 0), Check.NONE);
        Check.same("AGAIN without one", x.fault(0), 1);
        int[] kept = {TRY, 0, 3, 0, AGAIN, 0, 0, 0, END, 0, 0, 0, LOG, 0, 0, 0, 33, 0, 9, 0};
        x = Check.cell(24, 9, 0, 0);
        x.run(1);
        Check.same("AGAIN", Check.again(x, kept), Check.LOST);
        Check.same("AGAIN with its place", x.fault(0), 4);
        Check.same("AGAIN with its place", x.fault(1), 4);
        Check.same("AGAIN of an earlier run", Check.again(x, AGAIN, 0, 0, 0), Check.NONE);
        Check.same("AGAIN the last one", Check.again(x, TRY, 0, 4, 0, TRY, 0, 6, 0, AGAIN, 0, 0, 0, END, 0, 0, 0,
                5, 15, 15, 15, END, 0, 0, 0, 42, 0, 0, 0), Check.NONE);
        Check.same("AGAIN the last one", x.fault(0), 6);
        Check.outcome("RAISE 0", Check.KIND, 0, RAISE, 0, 0, 0);
        Check.outcome("RAISE 10", Check.KIND, 1, SET, 0, 0, 10, RAISE, 0, 0, 0);
        Check.outcome("RAISE -1", Check.KIND, 1, SET, 0, -1, -1, RAISE, 0, 0, 0);
        Check.outcome("RAISE 2^32 + 1", Check.KIND, 1, SET, 0, 1, 1, RAISE, 0, 0, 0);
    }

    private static void scopes() {
        RobotCell x = Check.cell(SCOPE, 0, 3, 5, LOG, 0, 0, 0, END, 0, 0, 0, LOG, 1, 0, 0, END, 0, 0, 0, LOG, 2, 0, 0);
        x.number(0, 0, 10);
        x.number(1, 0, 11);
        x.number(2, 0, 12);
        Check.same("SCOPE", x.run(100), 0);
        Check.same("SCOPE", x.logged(0) * 10000 + x.logged(1) * 100 + x.logged(2), 111210);
        int[] failing = {SCOPE, 0, 2, 4, END, 0, 0, 0, 42, 0, 0, 0, END, 0, 0, 0, LOG, 2, 0, 0};
        Check.same("SCOPE however", Check.again(x, failing), Check.NONE);
        Check.same("SCOPE however", x.fault(0), 2);
        Check.same("SCOPE however", x.logged(3), 12);
        int[] both = {SCOPE, 0, 2, 4, END, 0, 0, 0, 42, 0, 0, 0, END, 0, 0, 0, 5, 0, 0, 15};
        Check.same("SCOPE: the second's in its place", Check.again(x, both), Check.ZERO);
        Check.same("SCOPE: the second's in its place", x.fault(0), 4);
        int[] caught = {SCOPE, 0, 2, 4, END, 0, 0, 0, 42, 0, 0, 0, END, 0, 0, 0, TRY, 9, 6, 0, END, 0, 0, 0,
            5, 0, 0, 15};
        Check.same("SCOPE: one caught in the second", Check.again(x, caught), Check.NONE);
        Check.same("SCOPE: one caught in the second", x.fault(0), 2);
        Check.same("SCOPE: one caught in the second", x.told(9), 6);
        int before = x.logs();
        x.number(3, 1, 0);
        int[] stopped = {SCOPE, 0, 2, 4, END, 0, 0, 0, REPEAT, 3, -1, 0, END, 0, 0, 0, LOG, 2, 0, 0};
        Check.same("SCOPE stopped", Check.again(x, stopped), Check.STOPPED);
        Check.same("SCOPE stopped", x.logs(), before);
        int[] nested = {TRY, 9, 3, 0, LOG, 9, 0, 0, END, 0, 0, 0, SCOPE, 0, 5, 8, END, 0, 0, 0, SCOPE, 0, 10, 12,
            LOG, 8, 0, 0, END, 0, 0, 0, LOG, 7, 0, 0, END, 0, 0, 0, 42, 0, 0, 0, END, 0, 0, 0, LOG, 6, 0, 0};
        x.number(6, 0, 6);
        x.number(7, 0, 7);
        Check.same("SCOPES in one another", Check.again(x, nested), 0);
        Check.same("SCOPES in one another", x.logged(before) * 100 + x.logged(before + 1) * 10
                + x.logged(before + 2), 671);
        Check.same("SCOPES in one another", x.logs(), before + 3);
    }

    /** So many CALLs, each with an END behind it, and each of the next one: the last orders stand deepest. */
    private static RobotCell deep(int calls, int... last) {
        RobotCell x = new RobotCell();
        for (int i = 0; i < calls; i++) {
            x.order(CALL, 0, 2 * i + 2, 0);
            x.order(END, 0, 0, 0);
        }
        return Check.more(x, last);
    }

    private static void depth() {
        Check.same("40 blocks", deep(39, LOG, 0, 0, 0).run(20000), 0);
        for (int operation : new int[] {CALL, TRY, SCOPE}) {
            RobotCell x = deep(39, operation, 3, 79, 80, END, 0, 0, 0, LOG, 0, 0, 0);
            Check.same("41 blocks", x.run(20000), Check.DEEP);
            Check.same("41 blocks at " + operation, x.fault(0), 78);
            Check.same("41 blocks: not begun", x.logs(), 0);
            Check.same("41 blocks: not caught", x.told(3), 0);
        }
        RobotCell nowhere = deep(39, CALL, 0, -1, 0);
        Check.same("41 blocks, where there is no order", nowhere.run(20000), Check.DEEP);
        RobotCell x = deep(39, REPEAT, 0, 79, 0, END, 0, 0, 0);
        Check.same("41 blocks, none of them begun", x.run(20000), 0);
        x.number(0, 0, 2);
        Check.same("41 blocks", x.run(20000), Check.DEEP);
        Check.same("41 blocks", x.fault(0), 78);
        Check.same("41 blocks: all but the turn's fuel", x.run(40), Check.STOPPED);
        Check.same("41 blocks: the turn's fuel, too", x.run(41), Check.DEEP);
        RobotCell y = Check.cell(TRY, 0, 2, 9, END, 0, 0, 0, LOG, 0, 0, 0, CALL, 0, 2, 0);
        Check.same("DEEP is caught above", y.run(20000), 0);
        Check.same("DEEP is caught above", y.told(0), 9);
        Check.same("DEEP is caught above", y.logs(), 39);
        RobotCell z = Check.cell(SCOPE, 0, 0, 1);
        Check.same("DEEP through 39 scopes", z.run(20000), Check.DEEP);
        Check.same("DEEP at the last one", z.fault(0), 0);
        Check.same("DEEP after so many", z.fault(1), 40);
        RobotCell w = deep(38, SCOPE, 0, -1, 78, END, 0, 0, 0, LOG, 0, 0, 0, CALL, 0, -1, 0);
        Check.same("a SCOPE's second block has the first one's place", w.run(20000), Check.DEEP);
        Check.same("a SCOPE's second block has the first one's place", w.fault(0), 79);
        Check.same("a SCOPE's second block is begun", w.logs(), 1);
    }

    private static void unknownOperations() {
        int[] unknown = {-1, 22, 23, 35, 39, 59, 63, 75, 79, 85, 87, 93, 96, 255, 256, 1000, Integer.MIN_VALUE,
            Integer.MAX_VALUE};
        for (int operation : unknown) {
            Check.outcome("operation " + operation, Check.KIND, 1, LOG, 0, 0, 0, operation, 1, 2, 3);
        }
    }

    private static void makingRows() {
        RobotCell x = new RobotCell();
        x.number(1, 0, 64);
        for (int kind = 0; kind <= 9; kind++) {
            Check.same("MAKE", Check.again(x, 40, 3, 1, kind, 42, 2, 3, 0, 45, 4, 3, 0), 0);
            Check.same("LENGTH", x.told(2), 64);
            Check.same("SORT", x.told(4), kind);
            Check.same("new places", x.place(3, 63), kind >= 8 ? -1 : 0);
        }
        Check.same("MAKE kind 10", Check.again(x, 40, 3, 1, 10), Check.KIND);
        Check.same("MAKE kind -1", Check.again(x, 40, 3, 1, -1), Check.KIND);
        Check.same("MAKE kind 16", Check.again(x, 40, 3, 1, 16), Check.KIND);
        Check.number(x, 1, 65);
        Check.same("MAKE 65", Check.again(x, 40, 3, 1, 0), Check.LIMIT);
        Check.number(x, 1, 1L << 32);
        Check.same("MAKE 2^32", Check.again(x, 40, 3, 1, 0), Check.LIMIT);
        Check.number(x, 1, 0x80000000L);
        Check.same("MAKE 2^31", Check.again(x, 40, 3, 1, 0), Check.LIMIT);
        Check.number(x, 1, -1);
        Check.same("MAKE -1", Check.again(x, 40, 3, 1, 0), Check.SIZE);
        Check.number(x, 1, Long.MIN_VALUE + 5);
        Check.same("MAKE least", Check.again(x, 40, 3, 1, 0), Check.SIZE);
        Check.same("what failed made nothing", x.slot(3, 1), 64);
        Check.same("SORT of EMPTY", Check.again(x, 45, 4, 9, 0), 0);
        Check.same("SORT of EMPTY", x.told(4), -1);
        Check.same("LENGTH of EMPTY", Check.again(x, 42, 4, 9, 0), Check.NONE);
        Check.same("LENGTH of a POSE", Check.again(x, 80, 9, 0, 0, 42, 4, 9, 0), Check.KIND);
        Check.same("MOVE, DROP", Check.again(x, 46, 5, 3, 0, 47, 3, 0, 0, 46, 9, 14, 0), 0);
        Check.same("MOVE", x.slot(5, 0), 9);
        Check.same("DROP", x.slot(3, 0), -1);
        Check.same("MOVE of EMPTY", x.slot(9, 0), -1);
    }

    private static void grids() {
        RobotCell x = new RobotCell();
        x.number(1, 0, 2);
        x.number(2, 0, 3);
        Check.same("GRID", Check.again(x, 41, 0, 1, 2, 58, 3, 0, 4, 64 + 4, 2, 3, 1, 58, 5, 0, 4, 45, 6, 0, 0), 0);
        Check.same("GRID", x.slot(0, 0), 10);
        Check.same("GRID's ROWS", x.slot(0, 1), 2);
        Check.same("a GRID's ROW", x.slot(3, 0), 4);
        Check.same("a GRID's ROW", x.slot(5, 2), 3);
        Check.same("a GRID's ROW", x.place(5, 2), 3);
        Check.same("a GRID's ROW", x.place(0, 1), 3);
        grid(x, 17, 0, Check.LIMIT);
        grid(x, 0, 17, Check.LIMIT);
        grid(x, -1, 17, Check.SIZE);
        grid(x, 17, -1, Check.SIZE);
        grid(x, 0, -1, Check.SIZE);
        grid(x, 1L << 32, 1, Check.LIMIT);
        grid(x, 1, 1L << 33, Check.LIMIT);
        grid(x, 16, 16, 0);
        grid(x, 0, 0, 0);
    }

    private static void grid(RobotCell x, long rows, long places, int want) {
        Check.number(x, 1, rows);
        Check.number(x, 2, places);
        Check.same("GRID " + rows + " " + places, Check.again(x, 41, 0, 1, 2), want);
    }

    private static void loadingNumbers() {
        long[][] rows = {
            {0, 0x100, 1}, {0, 0, 0}, {1, -1, 0xffff}, {1, 0x12345, 0x2345}, {2, 0x1ff, -1}, {2, 0x80, -128},
            {3, 0x18000, -32768}, {3, 7, 7}, {4, 0x1ffffffffL, -1}, {4, 0x80000000L, Integer.MIN_VALUE},
            {5, Long.MIN_VALUE, Long.MIN_VALUE}
        };
        for (long[] row : rows) {
            int kind = (int) row[0];
            RobotCell x = Check.cell(40, 0, 1, kind, 64 + kind, 2, 0, 3, 48 + kind, 4, 0, 3);
            Check.number(x, 1, 3);
            Check.number(x, 2, row[1]);
            Check.number(x, 3, 0x700000002L);
            Check.same("STORE, LOAD " + kind, x.run(10), 0);
            Check.same("LOAD " + kind + " of " + row[1], x.told(4), row[2]);
            Check.same("place " + kind + " of " + row[1], x.place(0, 2), row[2]);
            Check.number(x, 3, 3);
            Check.same("beyond", x.run(10), Check.BOUNDS);
            Check.same("beyond", x.fault(0), 1);
            Check.number(x, 3, 0xffffffffL);
            Check.same("below 0", x.run(10), Check.BOUNDS);
        }
        RobotCell x = Check.cell(SET, 1, 0, 1, 24, 1, 1, 3, 40, 6, 1, 6, 40, 7, 1, 7, 70, 1, 6, 0, 71, 1, 7, 0,
                54, 2, 6, 0, 55, 3, 7, 0);
        Check.same("SAMPLES, MEASURES", x.run(20), 0);
        Check.bits("SAMPLES", x.bits(2), (double) (float) (1.0 / 3.0));
        Check.bits("MEASURES", x.bits(3), 1.0 / 3.0);
    }

    private static void loadingThings() {
        RobotCell x = Check.cell(SET, 1, 0, 2, SET, 2, 0, 1, 40, 8, 1, 8, 40, 9, 1, 9, 80, 11, 0, 0, 80, 12, 0, 1,
                72, 11, 8, 2, 72, 12, 8, 0, 73, 12, 9, 2, 72, 12, 9, 0, 56, 3, 8, 2, 56, 4, 8, 0, 56, 5, 9, 0,
                57, 6, 9, 2);
        Check.same("POSES, GRASPS", x.run(50), 0);
        Check.same("a POSE", x.slot(3, 2), 3);
        Check.same("a POSE", x.slot(11, 2), 3);
        Check.same("a GRASP out of POSES", x.slot(12, 2), 4);
        Check.same("a GRASP out of GRASPS as POSES", x.slot(5, 2), 4);
        Check.same("a GRASP out of GRASPS", x.slot(6, 2), 4);
        Check.same("EMPTY into it", Check.again(x, 72, 15, 8, 0, 73, 15, 9, 0, 56, 3, 8, 0), 0);
        Check.same("EMPTY out of it", x.slot(3, 0), -1);
        Check.same("place", x.place(9, 0), -1);
    }

    private static void storeFaults() {
        RobotCell x = Check.cell(SET, 1, 0, 1, 40, 4, 1, 4, 40, 5, 1, 5, 40, 8, 1, 8, 40, 9, 1, 9, 41, 10, 1, 1,
                80, 11, 0, 0, 80, 12, 0, 1, 88, 13, 0, 0);
        Check.same("things", x.run(50), 0);
        // n 0 is 0, the one place there is; n 1 is 1, no place.
        int[][] runs = {
            {48, 0, 4, 0, Check.KIND}, {52, 0, 5, 0, Check.KIND}, {52, 0, 15, 0, Check.NONE},
            {52, 0, 11, 0, Check.KIND}, {57, 0, 8, 0, Check.KIND}, {56, 0, 10, 0, Check.KIND},
            {58, 0, 8, 0, Check.KIND}, {58, 0, 4, 0, Check.KIND}, {52, 0, 4, 1, Check.BOUNDS},
            {56, 0, 9, 1, Check.BOUNDS}, {68, 0, 15, 1, Check.NONE}, {68, 0, 5, 1, Check.KIND},
            {72, 13, 15, 1, Check.KIND}, {72, 4, 8, 0, Check.KIND}, {72, 11, 15, 1, Check.NONE},
            {72, 11, 10, 1, Check.KIND}, {72, 11, 9, 1, Check.BOUNDS}, {72, 11, 9, 0, Check.STORE},
            {72, 15, 9, 1, Check.BOUNDS}, {73, 11, 9, 0, Check.KIND}, {73, 11, 15, 0, Check.KIND},
            {73, 12, 8, 0, Check.KIND}, {73, 12, 9, 1, Check.BOUNDS}, {74, 5, 10, 0, Check.KIND},
            {74, 11, 10, 0, Check.KIND}, {74, 10, 10, 0, Check.KIND}, {74, 4, 8, 0, Check.KIND},
            {74, 4, 10, 1, Check.BOUNDS}, {74, 4, 10, 0, 0}, {74, 15, 10, 0, 0}, {73, 12, 9, 0, 0}, {72, 12, 9, 0, 0},
            {68, 13, 4, 0, 0}
        };
        for (int[] run : runs) {
            String what = "operation " + run[0] + ", p " + run[1] + ", p " + run[2] + ", n " + run[3];
            Check.same(what, Check.again(x, run[0], run[1], run[2], run[3]), run[4]);
        }
    }

    private static int copy(RobotCell x, int from, int to, long first, long onto, long count) {
        Check.number(x, 14, first);
        Check.number(x, 15, onto);
        Check.number(x, 0, count);
        return Check.again(x, 43, from, to, 14);
    }

    private static void copying() {
        RobotCell x = new RobotCell();
        Check.more(x, SET, 1, 0, 4, 40, 1, 1, 4, 40, 2, 1, 4, 40, 3, 1, 5, 80, 11, 0, 0, SET, 5, 0, 1);
        for (int i = 0; i < 4; i++) {
            Check.more(x, SET, 2, 0, i, SET, 3, 0, 11 + i, 68, 3, 1, 2);
        }
        Check.same("COPY: things", x.run(100), 0);
        Check.same("COPY up in itself", copy(x, 1, 1, 0, 1, 3), 0);
        Check.same("COPY up in itself", digits(x, 1), 11111213);
        Check.same("COPY down in itself", copy(x, 1, 1, 1, 0, 3), 0);
        Check.same("COPY down in itself", digits(x, 1), 11121313);
        Check.same("COPY to another", copy(x, 1, 2, 1, 2, 2), 0);
        Check.same("COPY to another", digits(x, 2), 1213);
        Check.same("COPY lowest 32 bits", copy(x, 1, 2, 1L << 32, -1L << 32, 0x500000001L), 0);
        Check.same("COPY lowest 32 bits", digits(x, 2), 11001213);
        long[][] beyond = {{0, 0, 5}, {1, 0, 4}, {0, 1, 4}, {-1, 0, 1}, {0, -1, 1}, {0, 0, -1}, {5, 0, 0}, {0, 5, 0},
            {0x7fffffff, 0, 0x7fffffff}, {0, 0x7fffffff, 0x7fffffff}, {0x80000000L, 0, 0}};
        for (long[] range : beyond) {
            Check.same("COPY beyond", copy(x, 1, 2, range[0], range[1], range[2]), Check.BOUNDS);
        }
        Check.same("COPY nothing at the end", copy(x, 1, 2, 4, 4, 0), 0);
        Check.same("COPY of EMPTY", copy(x, 9, 11, -1, 0, 1), Check.NONE);
        Check.same("COPY to EMPTY", copy(x, 11, 9, -1, 0, 1), Check.NONE);
        Check.same("COPY of no ROW", copy(x, 11, 1, -1, 0, 1), Check.STORE);
        Check.same("COPY to no ROW", copy(x, 1, 11, -1, 0, 1), Check.STORE);
        Check.same("COPY unlike", copy(x, 1, 3, -1, 0, 1), Check.STORE);
        Check.same("COPY nothing unlike", copy(x, 1, 3, 0, 0, 0), Check.STORE);
    }

    private static long digits(RobotCell x, int slot) {
        long all = 0;
        for (int i = 0; i < 4; i++) {
            all = 100 * all + x.place(slot, i);
        }
        return all;
    }

    private static void copyingThings() {
        RobotCell x = Check.cell(SET, 1, 0, 3, SET, 2, 0, 1, SET, 3, 0, 2, 40, 8, 1, 8, 40, 9, 1, 9, 41, 10, 1, 1,
                80, 11, 0, 0, 80, 12, 0, 1, SET, 5, 0, 5, 82, 5, 11, 3, SET, 5, 0, 7, 82, 5, 12, 3,
                72, 12, 8, 0, 72, 11, 8, 2, 40, 4, 1, 4);
        Check.same("COPY: things", x.run(100), 0);
        Check.same("COPY up to a plain POSE", copy(x, 8, 9, 0, 0, 3), Check.STORE);
        Check.same("those ahead have come", x.place(9, 0), 7);
        Check.same("EMPTY, too", x.place(9, 1), -1);
        Check.same("the plain one hasn't", x.place(9, 2), -1);
        Check.same("COPY GRASPS to POSES", copy(x, 9, 8, 0, 1, 2), 0);
        Check.same("COPY GRASPS to POSES", x.place(8, 1) * 10 + x.place(8, 2), 69);
        Check.same("COPY EMPTY to a GRID", copy(x, 9, 10, 1, 1, 2), 0);
        Check.same("COPY EMPTY to a GRID", x.place(10, 1), -1);
        Check.same("COPY a POSE to a GRID", copy(x, 8, 10, 0, 0, 1), Check.STORE);
        Check.same("COPY a ROW to POSES", copy(x, 10, 8, 0, 0, 1), Check.STORE);
        Check.same("COPY a GRID to INTS", copy(x, 10, 4, 0, 0, 1), Check.STORE);
        Check.same("COPY in itself", copy(x, 8, 8, 0, 1, 2), 0);
        Check.same("COPY in itself", x.place(8, 2), 7);
        Check.same("BOUNDS ahead of what doesn't belong", copy(x, 8, 10, 0, 0, 9), Check.BOUNDS);
    }

    private static void cloning() {
        RobotCell x = Check.cell(SET, 1, 0, 2, 40, 4, 1, 4, SET, 2, 0, 1, 68, 1, 4, 2, 44, 5, 4, 0, 68, 2, 4, 2,
                40, 6, 1, 5, 80, 7, 0, 0);
        Check.same("CLONE", x.run(100), 0);
        Check.same("CLONE", x.place(5, 1), 2);
        Check.same("CLONE is one of its own", x.place(4, 1), 1);
        Check.same("CLONE", x.slot(5, 0) * 10 + x.slot(5, 1), 42);
        Check.same("CLONE of EMPTY", Check.again(x, 44, 5, 9, 0), Check.NONE);
        Check.same("CLONE of LONGS", Check.again(x, 44, 5, 6, 0), Check.KIND);
        Check.same("CLONE of a POSE", Check.again(x, 44, 5, 7, 0), Check.KIND);
    }

    private static void poses() {
        RobotCell x = Check.cell(80, 1, 0, 2, 80, 2, 0, -1, 24, 1, 3, 1, 24, 2, 4, 1, 24, 3, 7, 2, 24, 4, 9, 4,
                82, 1, 1, 0, 82, 2, 1, 1, 82, 3, 1, 8 + 2, 82, 4, 2, 5, SET, 1, 5, -3, 82, 1, 1, 3, 82, 2, 1, 4,
                81, 5, 1, 0, 81, 6, 1, 1, 81, 7, 1, 2, 81, 8, 2, 5, 81, 2, 1, 3, 81, 3, 1, 4, 81, 3, 1, 6, 84, 9, 1, 2,
                83, 2, 1, 2, 81, 10, 2, 0, 81, 11, 2, 1);
        Check.same("POSES", x.run(100), 0);
        Check.same("a POSE", x.slot(1, 0), 11);
        Check.same("a GRASP", x.slot(2, 0), 12);
        Check.bits("x", x.bits(5), 3);
        Check.bits("y", x.bits(6), 4);
        Check.bits("angle", x.bits(7), 3.5);
        Check.bits("force", x.bits(8), 2.25);
        Check.same("mark", x.told(2), -3);
        Check.same("after", x.slot(3, 2), 2);
        Check.same("two of them", x.told(3), 2);
        Check.bits("APART", x.bits(9), 5);
        Check.bits("SHIFT x", x.bits(10), 3);
        Check.bits("SHIFT y", x.bits(11), 4);
        Check.same("a ring", Check.again(x, 82, 2, 2, 4, 81, 4, 1, 6), 0);
        Check.same("a ring", x.told(4), 100);
        Check.same("a ring opened", Check.again(x, 82, 15, 1, 4, 81, 4, 1, 6, 81, 3, 1, 4), 0);
        Check.same("a ring opened", x.told(4), 1);
        Check.same("EMPTY after", x.slot(3, 0), -1);
        Check.same("nothing", Check.again(x, 82, 1, 1, 6, 82, 1, 1, 7, 81, 1, 1, 7), 0);
        // 99, 100 and 101 POSES, one behind the other
        for (int n = 99; n <= 101; n++) {
            RobotCell y = Check.cell(SET, 0, 0, n, REPEAT, 0, 4, 0, 81, 1, 1, 6, END, 0, 0, 0, 80, 2, 0, 0,
                    82, 1, 2, 4, 46, 1, 2, 0);
            Check.same("a chain", y.run(1000), 0);
            Check.same("a chain", y.told(1), Math.min(n, 100));
        }
    }

    private static void poseFaults() {
        RobotCell x = Check.cell(80, 11, 0, 0, 80, 12, 0, 1, 88, 13, 0, 0, 40, 4, 0, 8);
        x.run(10);
        int[][] runs = {
            {81, 0, 13, 0, Check.KIND}, {81, 0, 4, 7, Check.KIND}, {81, 0, 0, 7, Check.NONE},
            {81, 0, 0, 5, Check.NONE}, {81, 0, 11, 5, Check.KIND}, {81, 0, 12, 5, 0}, {82, 0, 11, 5, Check.KIND},
            {82, 0, 12, 5, 0}, {82, 0, 0, 5, Check.NONE}, {82, 0, 13, 6, Check.KIND}, {82, 0, 0, 6, Check.NONE},
            {82, 13, 0, 4, Check.KIND}, {82, 13, 11, 4, Check.KIND}, {82, 11, 13, 4, Check.KIND},
            {82, 11, 0, 4, Check.NONE}, {82, 12, 11, 4, 0}, {82, 0, 11, 4, 0}, {82, 13, 11, 0, 0},
            {83, 13, 0, 0, Check.KIND}, {83, 0, 0, 0, Check.NONE}, {83, 12, 0, 0, 0}, {84, 0, 11, 0, Check.NONE},
            {84, 0, 0, 11, Check.NONE}, {84, 0, 0, 13, Check.KIND}, {84, 0, 13, 0, Check.KIND}, {84, 0, 11, 12, 0}
        };
        for (int[] run : runs) {
            String what = "operation " + run[0] + ", " + run[1] + ", " + run[2] + ", " + run[3];
            Check.same(what, Check.again(x, run[0], run[1], run[2], run[3]), run[4]);
        }
    }

    private static void told(String what, RobotCell x, int slot, double... want) {
        for (int i = 0; i < want.length; i++) {
            Check.same(what, Check.again(x, 90, 9, slot, i), 0);
            Check.bits(what + " TELL " + i, x.bits(9), want[i]);
        }
    }

    private static int go(RobotCell x, int slot, double to) {
        Check.number(x, 7, -1);
        Check.measure(x, 8, to);
        return Check.again(x, 89, 7, slot, 8);
    }

    private static void goes(RobotCell x, int slot, double to, long ticks) {
        Check.same("GO " + to, go(x, slot, to), 0);
        Check.same("GO " + to + " in TICKS", x.told(7), ticks);
    }

    private static void axes() {
        RobotCell x = Check.cell(88, 0, 0, 4);
        x.run(1);
        Check.same("an AXIS", x.slot(0, 0), 13);
        told("a new AXIS", x, 0, 0, 100, 3, 0, 0, 10, 0, 0);
        goes(x, 0, 5, 10);
        goes(x, 0, 0.1, 10);
        told("an AXIS", x, 0, 0.1, 100, 3, 5 + 4.9, 2, 10);
        goes(x, 0, -100, 106);
        goes(x, 0, 100, 205);
        goes(x, 0, 100, 0);
        Check.same("beyond", go(x, 0, Math.nextUp(100.0)), Check.LIMIT);
        Check.same("beyond", go(x, 0, Double.NEGATIVE_INFINITY), Check.LIMIT);
        Check.same("LOST", go(x, 0, Double.NaN), Check.LOST);
        Check.same("no TICKS", x.told(7), -1);
        told("an AXIS", x, 0, 100, 100, 3, 5 + 4.9 + 100.1 + 200, 5, 10);
        goes(x, 0, 99.999, (long) Math.ceil(20 * Math.sqrt((100 - 99.999) / 20)));
    }

    private static void railsAndWrists() {
        RobotCell x = Check.cell(88, 1, 0, 1, 88, 2, 0, 2);
        x.run(2);
        Check.same("a RAIL", x.slot(1, 0), 14);
        Check.same("a WRIST", x.slot(2, 0), 15);
        told("a new RAIL", x, 1, 0, 1000, 4, 0, 0, 40, 0, 0);
        told("a new WRIST", x, 2, 0, 360, 8, 0, 0, 40, 0, 0);
        goes(x, 1, 20.01, 10);
        told("a RAIL", x, 1, 20, 1000, 4, 20, 1);
        goes(x, 1, 20.0625, 0);
        goes(x, 1, 20.1875, 2);
        told("a RAIL", x, 1, 20.25, 1000, 4, 20.25, 3);
        goes(x, 1, -0.01, 11);
        told("a RAIL at -0", x, 1, -0.0);
        goes(x, 1, 1000.0625, 255);
        Check.same("a RAIL beyond", go(x, 1, 1000.07), Check.LIMIT);
        Check.same("a RAIL beyond", go(x, 1, 1e308), Check.LIMIT);
        Check.same("a RAIL lost", go(x, 1, Double.NaN), Check.LOST);
        goes(x, 2, 725, 5);
        told("a WRIST", x, 2, 5, 360, 8, 5, 1, 40);
        goes(x, 2, -1, 94);
        told("a WRIST", x, 2, 359, 360, 8, 359, 2, 40);
        goes(x, 2, -0.01, 3);
        told("a WRIST", x, 2, 360);
        Check.same("a WRIST to infinity", go(x, 2, Double.POSITIVE_INFINITY), Check.LOST);
        Check.same("a WRIST to infinity", go(x, 2, Double.NEGATIVE_INFINITY), Check.LOST);
        Check.same("a WRIST lost", go(x, 2, Double.NaN), Check.LOST);
        told("a WRIST", x, 2, 360, 360, 8, 360, 3, 40);
    }

    private static void resting() {
        RobotCell x = Check.cell(88, 0, 0, 0, 88, 1, 0, 1, 88, 2, 0, 2);
        x.run(3);
        for (int slot = 0; slot < 3; slot++) {
            goes(x, slot, 50, slot == 0 ? 55 : 18);
            Check.same("REST", Check.again(x, 91, slot, 0, 0), 0);
        }
        told("an AXIS at rest", x, 0, 0, 100, 3, 50, 1);
        told("a RAIL at rest", x, 1, 0, 1000, 4, 50, 2);
        told("a WRIST at rest", x, 2, 0, 360, 8, 0, 1);
    }

    private static void sense(RobotCell x, double reading) {
        Check.measure(x, 1, reading);
        Check.same("SENSE", Check.again(x, 92, 3, 1, 0), 0);
    }

    private static void probes() {
        RobotCell x = Check.cell(88, 3, 0, 3);
        x.run(1);
        told("a new PROBE", x, 3, Double.NaN, 1, 1, 0, 0, 0, 0, 0);
        sense(x, 0.1);
        told("a PROBE", x, 3, (double) 0.1f, 1, 1, 0, 1, 0);
        sense(x, Double.NaN);
        told("a PROBE", x, 3, (double) 0.1f, 1, 1, 0, 2);
        sense(x, 3);
        sense(x, -2);
        sense(x, 1e300);
        told("a PROBE", x, 3, Double.POSITIVE_INFINITY, 1, 1, Double.POSITIVE_INFINITY, 5);
        sense(x, -1e300);
        told("a PROBE", x, 3, Double.NaN, 1, 1, Double.POSITIVE_INFINITY, 6);
        for (int i = 0; i < 5; i++) {
            sense(x, i * 0.7);
        }
        double sum = 0;
        for (int i = 0; i < 5; i++) {
            sum += (float) (i * 0.7);
        }
        told("a PROBE", x, 3, sum / 5, 1, 1, (double) (float) (4 * 0.7), 11);

        RobotCell y = Check.cell(88, 3, 0, 3);
        y.run(1);
        sense(y, Double.POSITIVE_INFINITY);
        told("a PROBE of infinity", y, 3, Double.POSITIVE_INFINITY, 1, 1, Double.NaN, 1);
        for (int i = 0; i < 5; i++) {
            sense(y, Double.NaN);
        }
        told("a PROBE of LOST ones", y, 3, Double.NaN, 1, 1, 0, 6);
        sense(y, -0.0);
        told("a PROBE from 0 on", y, 3, 0.0, 1, 1, 0.0, 7);
    }

    private static void deviceFaults() {
        RobotCell x = Check.cell(88, 0, 0, 0, 88, 3, 0, 3, 80, 11, 0, 0, 24, 1, 0, 0);
        x.run(10);
        int[][] runs = {
            {89, 0, 3, 0, Check.LIMIT}, {89, 0, 3, 1, Check.LOST}, {89, 0, 15, 1, Check.NONE},
            {89, 0, 11, 1, Check.KIND}, {89, 0, 0, 1, Check.LOST}, {90, 0, 15, 7, Check.NONE},
            {90, 0, 11, 7, Check.KIND}, {90, 0, 0, 7, 0}, {91, 3, 0, 0, Check.KIND}, {91, 11, 0, 0, Check.KIND},
            {91, 15, 0, 0, Check.NONE}, {92, 0, 0, 0, Check.KIND}, {92, 11, 0, 0, Check.KIND},
            {92, 15, 0, 0, Check.NONE}, {92, 3, 0, 0, 0}
        };
        for (int[] run : runs) {
            String what = "operation " + run[0] + ", " + run[1] + ", " + run[2] + ", " + run[3];
            Check.same(what, Check.again(x, run[0], run[1], run[2], run[3]), run[4]);
        }
    }
}
