/** Section 2 of the document up to the log, orders 0 to 21: a test for each sentence's edges. */
public final class ProgramBoundsTests extends Bounds {
    private ProgramBoundsTests() {
    }

    public static void main(String[] args) {
        fourHundredOrders();
        whereThereIsNoOrder();
        belowZero();
        eachOrderTakesFuel();
        passedOrdersTakeNone();
        eachTurnTakesFuel();
        turnsAheadOfDeep();
        stoppedDoesNoMore();
        fortyBlocks();
        deepAtTheOrder();
        deepNotInATry();
        deepBeginsNoSecond();
        blocksThatAreThrough();
        setting();
        dividing();
        shifting();
        comparing();
        skipping();
        repeating();
        trying();
        tryingOtherNumbers();
        keeping();
        scopesThrough();
        scopesWithFaults();
        scopesInOneAnother();
        theSecondsPlace();
        raising();
        again();
        againWithoutOne();
        logging();
        otherOperations();
        Check.end();
    }

    private static void fourHundredOrders() {
        sentence("PROGRAMS are at most 400 ORDERS, from 0 on");
        RobotCell x = new RobotCell();
        for (int i = 0; i < 399; i++) {
            x.order(LOG, 0, 0, 0);
        }
        Check.same("the 400th", x.order(SET, 0, 0, 5), 400);
        Check.same("one more", x.order(SET, 0, 0, 6), -1);
        Check.same("run", x.run(ALL_FUEL), 0);
        Check.same("the first 399 were done", x.logs(), 399);
        Check.same("the 400th, too, and no other", x.told(0), 5);
        RobotCell y = new RobotCell();
        y.order(CALL, 0, 399, 0);
        y.order(END, 0, 0, 0);
        for (int i = 2; i < 399; i++) {
            y.order(END, 0, 0, 0);
        }
        y.order(RAISE, 0, 0, 0);
        Check.same("run", y.run(ALL_FUEL), Check.KIND);
        Check.same("the last one's number", y.fault(0), 399);
        ends(y, Check.KIND, RAISE, 0, 0, 0);
        Check.same("the first one's number", y.fault(0), 0);
    }

    private static void whereThereIsNoOrder() {
        sentence("A BLOCK goes from an order on, up to an END (or where there is no order, ..): it is through then.");
        RobotCell x = new RobotCell();
        ends(x, 0, LOG, 0, 0, 0, LOG, 0, 0, 0, END, 0, 0, 0, LOG, 0, 0, 0);
        Check.same("up to the END", x.logs(), 2);
        Check.same("the END is done", x.fault(1), 3);
        x = new RobotCell();
        ends(x, 0, CALL, 0, 3, 0, LOG, 0, 0, 0, END, 0, 0, 0, LOG, 0, 0, 0, LOG, 0, 0, 0);
        Check.same("where there is no order, both are through", x.logs(), 3);
        for (int b : new int[] {2, 3, 399, 400, 401, Integer.MAX_VALUE}) {
            x = new RobotCell();
            ends(x, 0, CALL, 0, b, 0, LOG, 0, 0, 0);
            Check.same("a block from " + b + " on", x.fault(1), 2);
        }
        Check.same("no order at all", new RobotCell().run(0), 0);
    }

    private static void belowZero() {
        sentence("(or where there is no order, below 0, too)");
        for (int b : new int[] {-1, -2, -256, -400, Integer.MIN_VALUE}) {
            RobotCell x = numbers(2);
            ends(x, 0, CALL, 0, b, 0, TRY, 2, b, 0, REPEAT, 1, b, 0, SCOPE, 0, b, b, LOG, 1, 0, 0);
            Check.same("blocks from " + b + " on", x.fault(1), 5);
            Check.same("go on behind them", x.logs(), 1);
            Check.same("nothing is caught", x.told(2), 0);
        }
    }

    private static void needs(int fuel, RobotCell x) {
        Check.same("too little FUEL", x.run(fuel - 1), Check.STOPPED);
        Check.same("FUEL enough", x.run(fuel), 0);
    }

    private static void eachOrderTakesFuel() {
        sentence("Each order (an END, too) takes one of the FUEL");
        needs(1, Check.cell(END, 0, 0, 0));
        needs(1, Check.cell(SET, 0, 0, 0));
        needs(2, Check.cell(SET, 0, 0, 0, END, 0, 0, 0, LOG, 0, 0, 0));
        needs(1, Check.cell(SKIP, 0, 1, 0));
        needs(1, Check.cell(CALL, 0, 1, 0));
        needs(4, Check.cell(CALL, 0, 2, 0, END, 0, 0, 0, LOG, 0, 0, 0, END, 0, 0, 0));
        needs(4, Check.cell(TRY, 0, 2, 0, END, 0, 0, 0, LOG, 0, 0, 0, END, 0, 0, 0));
        needs(3, Check.cell(TRY, 0, 2, 0, END, 0, 0, 0, RAISE, 0, 0, 0));
        needs(6, Check.cell(SCOPE, 0, 2, 2, END, 0, 0, 0, LOG, 0, 0, 0, END, 0, 0, 0));
        RobotCell x = new RobotCell();
        for (int i = 0; i < 400; i++) {
            x.order(MSET, 0, 1, 1);
        }
        needs(400, x);
        RobotCell y = Check.cell(LOG, 0, 0, 0, RAISE, 0, 0, 0);
        Check.same("the one that fails takes it, too", y.run(1), Check.STOPPED);
        Check.same("the one that fails takes it, too", y.run(2), Check.KIND);
    }

    private static void passedOrdersTakeNone() {
        sentence("Each order takes one of the FUEL (passed ones aren't done)");
        RobotCell x = Check.cell(SKIP, 1, 3, 0, LOG, 0, 0, 0, RAISE, 0, 0, 0, END, 0, 0, 0, SET, 2, 0, 1);
        x.number(1, 0, 1);
        needs(2, x);
    }

    private static void eachTurnTakesFuel() {
        sentence("so does each turn of a REPEAT");
        RobotCell x = Check.cell(REPEAT, 1, 2, 0, END, 0, 0, 0, LOG, 0, 0, 0, END, 0, 0, 0);
        needs(2, x);
        x.number(1, 0, 1);
        needs(5, x);
        x.number(1, 0, 7);
        needs(2 + 7 * 3, x);
        Check.same("turns are no orders", x.fault(1), 2 + 7 * 2);
        RobotCell y = Check.cell(REPEAT, 1, -1, 0);
        y.number(1, 0, 19999);
        needs(20000, y);
        y.number(1, 0, 20000);
        Check.same("one turn more than the FUEL", y.run(20000), Check.STOPPED);
        Check.number(y, 1, MOST);
        Check.same("the most of turns", y.run(20000), Check.STOPPED);
        Check.same("the most of turns", y.fault(1), 1);
    }

    /** So many CALLs, each of the next one, the last of the block that is given; then ENDs go back. */
    private static RobotCell deep(int calls, int... last) {
        RobotCell x = new RobotCell();
        for (int i = 0; i < calls; i++) {
            x.order(CALL, 0, 2 * i + 2, 0);
            x.order(END, 0, 0, 0);
        }
        return Check.more(x, last);
    }

    private static void turnsAheadOfDeep() {
        sentence("so does each turn of a REPEAT (ahead of DEEP)");
        RobotCell x = deep(39, REPEAT, 1, -1, 0, END, 0, 0, 0);
        x.number(1, 0, 1);
        Check.same("FUEL for 39 CALLs and REPEAT", x.run(40), Check.STOPPED);
        Check.same("no fault then", x.fault(0), -1);
        Check.same("FUEL for the turn", x.run(41), Check.DEEP);
        Check.same("orders done", x.fault(1), 40);
        x.number(1, 0, 0);
        Check.same("without a turn it isn't DEEP", x.run(ALL_FUEL), 0);
        x.number(1, -1, -1);
        Check.same("without a turn it isn't DEEP", x.run(ALL_FUEL), 0);
    }

    private static void stoppedDoesNoMore() {
        sentence("without it the run is STOPPED: no more is done, nothing put right.");
        int[] orders = {TRY, 2, 3, 0, LOG, 2, 0, 0, END, 0, 0, 0, SCOPE, 0, 5, 8, END, 0, 0, 0,
            SET, 3, 0, 1, SET, 4, 0, 1, END, 0, 0, 0, SET, 5, 0, 1, END, 0, 0, 0};
        // TRY, SCOPE, SET, SET, END | SET, END | END | LOG, END
        int[][] done = {{0, 0, 0, 0}, {0, 0, 0, 0}, {0, 0, 0, 0}, {1, 0, 0, 0}, {1, 1, 0, 0}, {1, 1, 0, 0},
            {1, 1, 1, 0}, {1, 1, 1, 0}, {1, 1, 1, 0}, {1, 1, 1, 1}};
        for (int fuel = 0; fuel < done.length; fuel++) {
            RobotCell x = Check.cell(orders);
            Check.same("FUEL " + fuel, x.run(fuel), Check.STOPPED);
            Check.same("FUEL " + fuel + " n 3", x.told(3), done[fuel][0]);
            Check.same("FUEL " + fuel + " n 4", x.told(4), done[fuel][1]);
            Check.same("FUEL " + fuel + " n 5", x.told(5), done[fuel][2]);
            Check.same("FUEL " + fuel + " log", x.logs(), done[fuel][3]);
            Check.same("FUEL " + fuel + " nothing is caught", x.told(2), 0);
            Check.same("FUEL " + fuel + " orders", x.fault(1), fuel);
            Check.same("FUEL " + fuel + " no fault", x.fault(0), -1);
        }
        RobotCell x = Check.cell(orders);
        Check.same("FUEL enough", x.run(10), 0);
        RobotCell y = Check.cell(SCOPE, 0, 2, 4, END, 0, 0, 0, RAISE, 0, 0, 0, END, 0, 0, 0, LOG, 0, 0, 0, LOG, 0, 0, 0);
        Check.same("STOPPED while a fault goes on", y.run(3), Check.STOPPED);
        Check.same("STOPPED has no order", y.fault(0), -1);
        Check.same("what was put right so far", y.logs(), 1);
    }

    private static void fortyBlocks() {
        sentence("BLOCKS in one another are at most 40, the first one of a run too: else DEEP");
        Check.same("40 by CALL", deep(39, LOG, 0, 0, 0, END, 0, 0, 0).run(ALL_FUEL), 0);
        Check.same("41 by CALL", deep(40, LOG, 0, 0, 0, END, 0, 0, 0).run(ALL_FUEL), Check.DEEP);
        int[][] beginners = {{CALL, 0, 78, 0}, {REPEAT, 1, 78, 0}, {TRY, 2, 78, 5}, {SCOPE, 0, 78, -1},
            {SCOPE, 0, -1, 78}};
        for (int[] beginner : beginners) {
            RobotCell x = deep(38, beginner[0], beginner[1], beginner[2], beginner[3], END, 0, 0, 0, LOG, 0, 0, 0);
            x.number(1, 0, 1);
            Check.same("40 by " + shown(beginner), x.run(ALL_FUEL), 0);
            Check.same("40 by " + shown(beginner), x.logs(), 1);
            RobotCell y = deep(39, beginner[0], beginner[1], beginner[2] + 2, beginner[3], END, 0, 0, 0, LOG, 0, 0, 0);
            y.number(1, 0, 1);
            Check.same("41 by " + shown(beginner), y.run(ALL_FUEL), Check.DEEP);
            Check.same("41 by " + shown(beginner), y.logs(), 0);
        }
        for (int operation = CALL; operation <= SCOPE; operation++) {
            RobotCell x = Check.cell(LOG, 0, 0, 0, operation, 1, 0, -1);
            x.number(1, 0, 1);
            Check.same("blocks in themselves", x.run(ALL_FUEL), Check.DEEP);
            Check.same("40 of them were begun", x.logs(), 40);
            Check.same("another run begins anew", x.run(ALL_FUEL), Check.DEEP);
            Check.same("another run begins anew", x.logs(), 80);
        }
    }

    private static void deepAtTheOrder() {
        sentence("else DEEP, at the order that would begin one");
        for (int operation = CALL; operation <= SCOPE; operation++) {
            RobotCell x = deep(39, LOG, 0, 0, 0, operation, 1, 80, 80, END, 0, 0, 0);
            x.number(1, 0, 1);
            Check.same("run", x.run(ALL_FUEL), Check.DEEP);
            Check.same("the order of " + operation, x.fault(0), 79);
            Check.same("the orders done with " + operation, x.fault(1), 41);
        }
        RobotCell x = deep(39, CALL, 0, -1, 0);
        Check.same("a block where there is no order", x.run(ALL_FUEL), Check.DEEP);
        Check.same("a block where there is no order", x.fault(0), 78);
    }

    private static void deepNotInATry() {
        sentence("(not in a TRY's block");
        for (int c : new int[] {0, Check.DEEP}) {
            RobotCell x = deep(39, TRY, 2, 80, c, END, 0, 0, 0, LOG, 0, 0, 0);
            Check.same("the TRY that would begin it", x.run(ALL_FUEL), Check.DEEP);
            Check.same("doesn't catch it", x.told(2), 0);
            RobotCell y = deep(38, TRY, 2, 78, c, LOG, 2, 0, 0, CALL, 0, 80, 0);
            // Caught, the run goes on behind the TRY: the same CALL is not too deep there.
            Check.same("the TRY whose block it is in", y.run(ALL_FUEL), 0);
            Check.same("catches it", y.logged(0), 9);
        }
        RobotCell z = deep(37, TRY, 2, 77, 9, LOG, 2, 0, 0, END, 0, 0, 0, CALL, 0, 79, 0, END, 0, 0, 0, CALL, 0, 81, 0);
        Check.same("a TRY two blocks above catches it", z.run(ALL_FUEL), 0);
        Check.same("a TRY two blocks above catches it", z.logged(0), 9);
    }

    private static void deepBeginsNoSecond() {
        sentence("a SCOPE's second one isn't begun then)");
        RobotCell x = deep(39, SCOPE, 0, -1, 80, END, 0, 0, 0, LOG, 0, 0, 0);
        Check.same("run", x.run(ALL_FUEL), Check.DEEP);
        Check.same("not begun", x.logs(), 0);
        RobotCell y = deep(38, SCOPE, 0, 78, 80, END, 0, 0, 0, CALL, 0, -1, 0, END, 0, 0, 0, LOG, 0, 0, 0);
        Check.same("DEEP within the first", y.run(ALL_FUEL), Check.DEEP);
        Check.same("begins the second", y.logs(), 1);
        Check.same("DEEP within the first", y.fault(0), 78);
    }

    private static void blocksThatAreThrough() {
        sentence("BLOCKS in one another are at most 40 (those that are through don't count)");
        RobotCell x = deep(38, REPEAT, 1, 78, 0, END, 0, 0, 0, LOG, 0, 0, 0);
        x.number(1, 0, 100);
        Check.same("100 turns in the 39th block", x.run(ALL_FUEL), 0);
        Check.same("100 turns in the 39th block", x.logs(), 100);
        RobotCell y = numbers(60);
        ends(y, 0, REPEAT, 1, 2, 0, END, 0, 0, 0, TRY, 2, 4, 0, END, 0, 0, 0, CALL, 0, 6, 0, END, 0, 0, 0, RAISE, 1, 0, 0);
        Check.same("those that a fault has left neither", y.told(2), 2);
    }

    private static void setting() {
        sentence("1 SET: n a is b * 2^32 + c (c without a sign).");
        int[][] parts = {{0, 0}, {0, -1}, {-1, 0}, {-1, -1}, {Integer.MAX_VALUE, -1}, {Integer.MIN_VALUE, 0},
            {0, Integer.MIN_VALUE}, {1, Integer.MAX_VALUE}};
        long[] wants = {0, 0xffffffffL, -0x100000000L, -1, MOST, LEAST, 0x80000000L, 0x17fffffffL};
        for (int i = 0; i < parts.length; i++) {
            RobotCell x = new RobotCell();
            ends(x, 0, SET, 1, parts[i][0], parts[i][1]);
            Check.same("SET " + parts[i][0] + " " + parts[i][1], x.told(1), wants[i]);
        }
    }

    private static void gives(int operation, long left, long right, long want) {
        RobotCell x = numbers(left, right);
        ends(x, 0, operation, 3, 1, 2);
        Check.same(operation + " of " + left + ", " + right, x.told(3), want);
    }

    private static void dividing() {
        sentence("5 DIV, 6 REM (towards 0, with n b's sign");
        gives(DIV, 7, 2, 3);
        gives(DIV, -7, 2, -3);
        gives(DIV, 7, -2, -3);
        gives(DIV, -7, -2, 3);
        gives(DIV, -1, MOST, 0);
        gives(REM, 7, 2, 1);
        gives(REM, -7, 2, -1);
        gives(REM, 7, -2, 1);
        gives(REM, -7, -2, -1);
        gives(REM, LEAST, MOST, -1);
        gives(REM, MOST, LEAST, MOST);
        sentence("by 0: ZERO");
        for (long left : new long[] {0, 1, -1, LEAST, MOST}) {
            refuses(numbers(left, 0, 5), Check.ZERO, DIV, 3, 1, 2);
            refuses(numbers(left, 0, 5), Check.ZERO, REM, 3, 1, 2);
        }
        gives(DIV, 8, 1L << 32, 0);
        gives(REM, 8, 1L << 32, 8);
        sentence("the least by -1 goes round)");
        gives(DIV, LEAST, -1, LEAST);
        gives(REM, LEAST, -1, 0);
        gives(DIV, LEAST, 1, LEAST);
        gives(DIV, LEAST + 1, -1, MOST);
    }

    private static void shifting() {
        sentence("9 LEFT, 10 RIGHT (by the lowest 6 bits; the sign comes in)");
        gives(LEFT, 1, 0, 1);
        gives(LEFT, 1, 63, LEAST);
        gives(LEFT, 1, 64, 1);
        gives(LEFT, 1, 65, 2);
        gives(LEFT, 1, -1, LEAST);
        gives(LEFT, 5, LEAST, 5);
        gives(LEFT, 1, 1L << 32, 1);
        gives(LEFT, 1, 32, 1L << 32);
        gives(RIGHT, MOST, 62, 1);
        gives(RIGHT, LEAST, 63, -1);
        gives(RIGHT, -1, 63, -1);
        gives(RIGHT, -8, 1, -4);
        gives(RIGHT, -8, 64, -8);
        gives(RIGHT, -8, 65, -4);
        gives(RIGHT, LEAST, -1, -1);
        gives(AND, -1, LEAST, LEAST);
        gives(XOR, -1, LEAST, MOST);
    }

    private static void comparing() {
        sentence("11 LESS, 12 SAME: n a is 1 if n b is so to n c, else 0.");
        gives(LESS, 1, 2, 1);
        gives(LESS, 2, 2, 0);
        gives(LESS, 3, 2, 0);
        gives(LESS, LEAST, MOST, 1);
        gives(LESS, MOST, LEAST, 0);
        gives(LESS, LEAST, 0, 1);
        gives(LESS, 1L << 32, 1, 0);
        gives(SAME, LEAST, LEAST, 1);
        gives(SAME, 0, LEAST, 0);
        gives(SAME, 7, 7 + (1L << 32), 0);
    }

    private static void skipping() {
        sentence("13 SKIP: if n a isn't 0, the next (lowest 8 bits of b) orders are passed (ENDs, too).");
        RobotCell x = new RobotCell();
        x.order(SKIP, 1, 0, 0);
        for (int i = 0; i < 300; i++) {
            x.order(ADD, 2, 2, 3);
        }
        x.number(3, 0, 1);
        Check.same("n a is 0", x.run(ALL_FUEL), 0);
        Check.same("none is passed", x.told(2), 300);
        int[] by = {0, 1, 255, 256, 257, -1, -256, Integer.MIN_VALUE + 7};
        int[] left = {300, 299, 45, 300, 299, 45, 300, 293};
        for (int i = 0; i < by.length; i++) {
            for (long n : new long[] {1, -1, LEAST, 1L << 32}) {
                RobotCell y = new RobotCell();
                y.order(SKIP, 1, by[i], 0);
                for (int k = 0; k < 300; k++) {
                    y.order(ADD, 2, 2, 3);
                }
                y.number(3, 0, 1);
                Check.number(y, 1, n);
                Check.same("run", y.run(ALL_FUEL), 0);
                Check.same("SKIP by " + by[i], y.told(2), left[i]);
            }
        }
        RobotCell z = numbers(1);
        ends(z, 0, SKIP, 1, 2, 0, END, 0, 0, 0, END, 0, 0, 0, LOG, 1, 0, 0, END, 0, 0, 0);
        Check.same("ENDs are passed, too", z.logs(), 1);
        ends(z, 0, SKIP, 1, 2, 0, LOG, 1, 0, 0, LOG, 1, 0, 0);
        Check.same("all that are left", z.logs(), 1);
        ends(z, 0, SKIP, 1, 200, 0, LOG, 1, 0, 0);
        Check.same("more than are left", z.logs(), 1);
        ends(z, 0, CALL, 0, 3, 0, LOG, 1, 0, 0, END, 0, 0, 0, SKIP, 1, 9, 0, LOG, 1, 0, 0);
        Check.same("the block is through then", z.logs(), 2);
    }

    private static void repeating() {
        sentence("15 REPEAT: the block b, n a times (as it is when that begins).");
        for (long n : new long[] {0, -1, LEAST, -(1L << 32) + 3}) {
            RobotCell x = numbers(n);
            ends(x, 0, REPEAT, 1, 2, 0, END, 0, 0, 0, LOG, 0, 0, 0);
            Check.same(n + " times", x.logs(), 0);
        }
        RobotCell x = numbers(3);
        ends(x, 0, REPEAT, 1, 2, 0, END, 0, 0, 0, ADD, 1, 1, 1, LOG, 1, 0, 0);
        Check.same("more on the way", x.logs(), 3);
        Check.same("more on the way", x.logged(2), 24);
        RobotCell y = numbers(3);
        ends(y, 0, REPEAT, 1, 2, 0, END, 0, 0, 0, SUB, 1, 1, 1, LOG, 1, 0, 0);
        Check.same("less on the way", y.logs(), 3);
        RobotCell z = numbers(3, 1);
        ends(z, Check.NONE, REPEAT, 1, 2, 0, END, 0, 0, 0, LOG, 0, 0, 0, RAISE, 2, 0, 0);
        Check.same("a fault ends it", z.logs(), 1);
    }

    private static void trying() {
        sentence("16 TRY: the block b; a fault of kind c (0: any ..) in it ends here: n a is its kind");
        for (int kind = 1; kind <= 9; kind++) {
            for (int c = 0; c <= 9; c++) {
                RobotCell x = numbers(kind, 77);
                boolean caught = c == 0 || c == kind;
                ends(x, caught ? 0 : kind, TRY, 2, 3, c, LOG, 2, 0, 0, END, 0, 0, 0, RAISE, 1, 0, 0);
                Check.same("kind " + kind + " by " + c, x.told(2), caught ? kind : 77);
                Check.same("kind " + kind + " by " + c, x.logs(), caught ? 1 : 0);
                Check.same("kind " + kind + " by " + c, x.fault(0), caught ? -1 : 3);
            }
        }
        RobotCell x = numbers(6, 77);
        ends(x, 0, TRY, 2, 1, 0);
        Check.same("without a fault n a stays", x.told(2), 77);
    }

    private static void tryingOtherNumbers() {
        sentence("(.. other numbers: none)");
        for (int c : new int[] {10, 11, -1, -6, 16 + 6, 256 + 6, Integer.MIN_VALUE, Integer.MAX_VALUE, 1 << 16}) {
            RobotCell x = numbers(6, 77);
            ends(x, 6, TRY, 2, 2, c, END, 0, 0, 0, RAISE, 1, 0, 0);
            Check.same("by " + c, x.told(2), 77);
            RobotCell y = Check.cell(TRY, 2, 2, c, END, 0, 0, 0, CALL, 0, -1, 0, CALL, 0, -1, 0);
            Check.same("no STOPPED either", y.run(2), Check.STOPPED);
            Check.same("by " + c, y.told(2), 0);
        }
    }

    private static void keeping() {
        sentence("and it is KEPT.");
        RobotCell x = numbers(6, 7);
        // Only what ends at a TRY is KEPT, not what goes on through one.
        ends(x, 6, TRY, 3, 3, 6, AGAIN, 0, 0, 0, END, 0, 0, 0, TRY, 3, 5, 7, END, 0, 0, 0, RAISE, 1, 0, 0);
        Check.same("its place", x.fault(0), 5);
        Check.same("with AGAIN itself", x.fault(1), 4);
        RobotCell y = numbers(6, 7);
        ends(y, 7, TRY, 3, 4, 0, TRY, 3, 6, 0, AGAIN, 0, 0, 0, END, 0, 0, 0, RAISE, 1, 0, 0, END, 0, 0, 0,
                RAISE, 2, 0, 0);
        Check.same("the last one", y.fault(0), 6);
        RobotCell z = numbers(6, 7);
        ends(z, 6, TRY, 3, 4, 0, TRY, 3, 6, 0, AGAIN, 0, 0, 0, END, 0, 0, 0, RAISE, 1, 0, 0, END, 0, 0, 0,
                LOG, 2, 0, 0);
        Check.same("a TRY without a fault keeps none", z.fault(0), 4);
    }

    private static void scopesThrough() {
        sentence("17 SCOPE: the block b, then the block c");
        RobotCell x = numbers(1, 2, 3);
        ends(x, 0, SCOPE, 0, 3, 5, LOG, 3, 0, 0, END, 0, 0, 0, LOG, 1, 0, 0, END, 0, 0, 0, LOG, 2, 0, 0, END, 0, 0, 0);
        Check.same("in order", x.logged(0) * 100 + x.logged(1) * 10 + x.logged(2), 123);
        Check.same("orders", x.fault(1), 7);
        Check.same("each once", x.logs(), 3);
    }

    private static void scopesWithFaults() {
        sentence("however b ended (not when STOPPED); then what it was goes on");
        RobotCell x = numbers(6, 7);
        int[] orders = {SCOPE, 0, 3, 5, LOG, 2, 0, 0, END, 0, 0, 0, RAISE, 1, 0, 0, END, 0, 0, 0, LOG, 1, 0, 0};
        ends(x, 6, orders);
        Check.same("the second is done", x.logs(), 1);
        Check.same("the fault goes on", x.fault(0), 3);
        Check.same("orders", x.fault(1), 3);
        RobotCell y = numbers(6, 7);
        ends(y, 6, SCOPE, 0, 2, 4, END, 0, 0, 0, RAISE, 1, 0, 0, END, 0, 0, 0, TRY, 3, 6, 0, END, 0, 0, 0, RAISE, 2, 0, 0);
        Check.same("one that the second catches hides nothing", y.fault(0), 2);
        Check.same("one that the second catches", y.told(3), 7);
        RobotCell z = Check.cell(SCOPE, 0, 2, 4, END, 0, 0, 0, LOG, 0, 0, 0, END, 0, 0, 0, LOG, 0, 0, 0);
        Check.same("STOPPED", z.run(2), Check.STOPPED);
        Check.same("nothing put right", z.logs(), 1);
        sentence("(a fault of c goes in its place)");
        RobotCell w = numbers(6, 7);
        ends(w, 7, SCOPE, 0, 2, 4, END, 0, 0, 0, RAISE, 1, 0, 0, END, 0, 0, 0, RAISE, 2, 0, 0);
        Check.same("its order", w.fault(0), 4);
        RobotCell v = numbers(6, 7);
        ends(v, 7, SCOPE, 0, -1, 2, END, 0, 0, 0, RAISE, 2, 0, 0);
        Check.same("where b was through, too", v.fault(0), 2);
        RobotCell u = numbers(6, 7);
        ends(u, 6, TRY, 3, 3, 7, LOG, 3, 0, 0, AGAIN, 0, 0, 0, SCOPE, 0, 5, 7, END, 0, 0, 0, RAISE, 2, 0, 0, END, 0, 0, 0,
                RAISE, 1, 0, 0);
        Check.same("a TRY sees that one alone", u.told(3), 0);
    }

    private static void scopesInOneAnother() {
        sentence("while what a scope has to put right is done, in order, however it is left");
        int[] orders = {SCOPE, 0, 3, 5, LOG, 9, 0, 0, END, 0, 0, 0, SCOPE, 0, 7, 9, END, 0, 0, 0, LOG, 3, 0, 0, END, 0, 0, 0,
            SCOPE, 0, 11, 13, END, 0, 0, 0, LOG, 2, 0, 0, END, 0, 0, 0, RAISE, 4, 0, 0, END, 0, 0, 0, LOG, 1, 0, 0};
        RobotCell x = numbers(1, 2, 3, 8);
        ends(x, 8, orders);
        Check.same("from the inner one on", x.logged(0) * 100 + x.logged(1) * 10 + x.logged(2), 123);
        Check.same("and no more", x.logs(), 3);
        Check.same("the first fault's order", x.fault(0), 11);
    }

    private static void theSecondsPlace() {
        sentence("(The second block's place of 40 is the first one's.)");
        RobotCell x = deep(38, SCOPE, 0, -1, 78, END, 0, 0, 0, LOG, 0, 0, 0, END, 0, 0, 0);
        Check.same("the second is the 40th", x.run(ALL_FUEL), 0);
        Check.same("the second is the 40th", x.logs(), 1);
        RobotCell y = deep(38, SCOPE, 0, -1, 78, END, 0, 0, 0, LOG, 0, 0, 0, CALL, 0, -1, 0);
        Check.same("one within is the 41st", y.run(ALL_FUEL), Check.DEEP);
        Check.same("one within is the 41st", y.fault(0), 79);
        RobotCell z = deep(37, SCOPE, 0, -1, 76, END, 0, 0, 0, LOG, 0, 0, 0, CALL, 0, -1, 0);
        Check.same("one within the 39th is the 40th", z.run(ALL_FUEL), 0);
    }

    private static void raising() {
        sentence("18 RAISE: the fault n a (1 .. 9; others: KIND).");
        for (int kind = 1; kind <= 9; kind++) {
            refuses(numbers(kind), kind, RAISE, 1, 0, 0);
        }
        for (long n : new long[] {0, 10, -1, -9, 11, 256 + 3, 1L << 32, (1L << 32) + 3, LEAST, MOST, LEAST + 3}) {
            refuses(numbers(n), Check.KIND, RAISE, 1, 0, 0);
        }
    }

    private static void again() {
        sentence("19 AGAIN: the fault that was KEPT last in this run, with its place");
        RobotCell x = numbers(6);
        ends(x, 6, TRY, 3, 4, 0, LOG, 3, 0, 0, AGAIN, 0, 0, 0, END, 0, 0, 0, LOG, 1, 0, 0, RAISE, 1, 0, 0);
        Check.same("its place", x.fault(0), 5);
        RobotCell y = numbers(6);
        ends(y, 0, TRY, 3, 4, 0, TRY, 4, 6, 6, LOG, 4, 0, 0, END, 0, 0, 0, RAISE, 1, 0, 0, END, 0, 0, 0, AGAIN, 0, 0, 0);
        Check.same("a TRY catches it by its kind", y.told(4), 6);
        RobotCell z = numbers(6);
        ends(z, 6, TRY, 3, 5, 0, TRY, 4, 7, 0, TRY, 4, 7, 0, AGAIN, 0, 0, 0, END, 0, 0, 0, RAISE, 1, 0, 0, END, 0, 0, 0,
                AGAIN, 0, 0, 0);
        Check.same("as often as it is, its place stays", z.fault(0), 5);
        // While one that is not KEPT is on its way, from order 6, the KEPT one of order 3 goes in its place.
        RobotCell w = numbers(6, 7);
        ends(w, 6, TRY, 3, 3, 0, SCOPE, 0, 5, 8, END, 0, 0, 0, RAISE, 1, 0, 0, END, 0, 0, 0, LOG, 1, 0, 0, RAISE, 2, 0, 0,
                END, 0, 0, 0, AGAIN, 0, 0, 0);
        Check.same("with its place, not another's", w.fault(0), 3);
    }

    private static void againWithoutOne() {
        sentence("(without one: NONE)");
        refuses(new RobotCell(), Check.NONE, AGAIN, 0, 0, 0);
        RobotCell x = numbers(6);
        ends(x, 0, TRY, 3, 2, 0, END, 0, 0, 0, RAISE, 1, 0, 0);
        ends(x, Check.NONE, LOG, 0, 0, 0, AGAIN, 0, 0, 0);
        Check.same("one of an earlier run is none", x.fault(0), 1);
        ends(x, Check.ZERO, RAISE, 1, 0, 0);
        ends(x, Check.NONE, AGAIN, 0, 0, 0);
        RobotCell y = numbers(6);
        ends(y, 1, SCOPE, 0, 2, 4, END, 0, 0, 0, RAISE, 1, 0, 0, END, 0, 0, 0, AGAIN, 0, 0, 0);
        Check.same("one that is on its way is not KEPT", y.fault(0), 4);
    }

    private static void logging() {
        sentence("20 LOG: n a comes on the log; the log keeps the first 200.");
        RobotCell x = numbers(199, 1);
        ends(x, 0, REPEAT, 1, 3, 0, LOG, 1, 0, 0, END, 0, 0, 0, LOG, 3, 0, 0, ADD, 3, 3, 2);
        Check.same("200 came", x.logs(), 200);
        Check.same("the 199th", x.logged(198), 198);
        Check.same("the 200th is kept", x.logged(199), 199);
        ends(x, 0, LOG, 2, 0, 0, MLOG, 2, 0, 0);
        Check.same("202 came", x.logs(), 202);
        Check.same("the 201st isn't kept", x.logged(200), 0);
        Check.same("the first ones stay", x.logged(199), 199);
        Check.same("the first ones stay", x.logged(0), 0);
        sentence("21: m a's bits (of LOST 0x7ff8000000000000)");
        RobotCell y = measures(NO_NUMBER, -0.0, -INFINITY);
        ends(y, 0, MLOG, 1, 0, 0, MLOG, 2, 0, 0, MLOG, 3, 0, 0);
        Check.same("LOST", y.logged(0), 0x7ff8000000000000L);
        Check.same("-0", y.logged(1), LEAST);
        Check.same("infinity", y.logged(2), 0xfff0000000000000L);
    }

    private static void otherOperations() {
        sentence("Other operations: KIND.");
        boolean[] known = new boolean[128];
        for (int operation = 0; operation < 128; operation++) {
            known[operation] = operation <= 21 || operation >= 24 && operation <= 34 || operation >= 40 && operation <= 58
                || operation >= 64 && operation <= 74 || operation >= 80 && operation <= 84
                || operation >= 88 && operation <= 92;
        }
        for (int operation = 0; operation < 128; operation++) {
            if (!known[operation]) {
                refuses(after(ALL_KINDS), Check.KIND, operation, 1, 4, 4);
                // With EMPTY slots it is KIND, too: such an order uses none of them.
                refuses(new RobotCell(), Check.KIND, operation, 1, 4, 4);
            }
        }
        for (int operation : new int[] {-1, -2, -64, -128, 128, 255, 256, 257, 256 + 20, 65536 + 1, Integer.MIN_VALUE,
            Integer.MIN_VALUE + 20, Integer.MAX_VALUE}) {
            refuses(after(ALL_KINDS), Check.KIND, operation, 1, 4, 4);
            refuses(new RobotCell(), Check.KIND, operation, 1, 4, 4);
        }
    }
}
