/** Promises 1 to 13 of the document, the calls themselves: a test for each sentence's edges. */
public final class CallBoundsTests extends Bounds {
    private CallBoundsTests() {
    }

    public static void main(String[] args) {
        theConstant();
        aNewObject();
        ordersOfWhateverNumbers();
        ordersAreCounted();
        clearing();
        numbering();
        runningFuel();
        runningFromOrderZero();
        runningAnswers();
        runsGoOn();
        faultOrders();
        faultCounts();
        faultWithoutARun();
        faultOfAnotherWhat();
        faultOfTheLatestRun();
        telling();
        tellingBits();
        slotKinds();
        slotPlaces();
        slotFirsts();
        slotOfAnotherWhat();
        placesOfNumbers();
        placesOfFractions();
        placesOfThings();
        placesWithoutARow();
        placesThatAreNot();
        logging();
        countingTheLog();
        resetting();
        resettingInTheMidst();
        theLastCalls();
        Check.end();
    }

    private static void theConstant() {
        sentence("The constants: NONE = -1: There is none.");
        Check.same("NONE", RobotCell.NONE, -1);
    }

    private static void isAsAtFirst(RobotCell x) {
        for (int r = 0; r < 16; r++) {
            Check.same("told " + r, x.told(r), 0);
            Check.same("bits " + r, x.bits(r), 0);
            Check.same("slot " + r, x.slot(r, 0), -1);
        }
        Check.same("logs", x.logs(), 0);
        for (int i = 0; i < 3; i++) {
            Check.same("logged " + i, x.logged(i), 0);
        }
        Check.same("logged 199", x.logged(199), 0);
        Check.same("fault 0", x.fault(0), -1);
        Check.same("fault 1", x.fault(1), -1);
        Check.same("no orders: through without FUEL", x.run(0), 0);
        Check.same("no orders were done", x.fault(1), 0);
        Check.same("the first order", x.order(AGAIN, 0, 0, 0), 1);
        Check.same("nothing is KEPT", x.run(1), Check.NONE);
    }

    private static void aNewObject() {
        sentence("RobotCell(): No program, all registers as at first.");
        isAsAtFirst(new RobotCell());
        RobotCell x = after(SET, 1, 0, 5, LOG, 1, 0, 0, POSE, 1, 0, 0);
        isAsAtFirst(new RobotCell());
        Check.same("the other one has its own", x.told(1), 5);
    }

    private static void ordersOfWhateverNumbers() {
        sentence("An order comes behind the others, of whatever numbers: how many there are");
        int[] any = {Integer.MIN_VALUE, -1, 0, 1, 92, 93, Integer.MAX_VALUE};
        RobotCell x = new RobotCell();
        int count = 0;
        for (int operation : any) {
            for (int other : any) {
                count++;
                Check.same("how many", x.order(operation, other, other, other), count);
            }
        }
        RobotCell y = new RobotCell();
        y.order(SET, 1, 0, 1);
        y.order(LOG, 1, 0, 0);
        y.run(ALL_FUEL);
        Check.same("behind the others, after a run, too", y.order(SET, 1, 0, 2), 3);
        y.order(LOG, 1, 0, 0);
        y.run(ALL_FUEL);
        Check.same("in their order", y.logged(0) * 100 + y.logged(1) * 10 + y.logged(2), 112);
    }

    private static void ordersAreCounted() {
        sentence("NONE when there would be more than 400.");
        RobotCell x = new RobotCell();
        for (int i = 1; i <= 400; i++) {
            Check.same("how many", x.order(END, 0, 0, 0), i);
        }
        Check.same("the 401st", x.order(LOG, 0, 0, 0), -1);
        Check.same("the 402nd", x.order(LOG, 0, 0, 0), -1);
        x.clear();
        Check.same("after clear", x.order(LOG, 0, 0, 0), 1);
        RobotCell y = new RobotCell();
        for (int i = 1; i <= 400; i++) {
            y.order(LOG, 0, 0, 0);
        }
        y.order(RAISE, 0, 0, 0);
        Check.same("the refused one isn't done", y.run(ALL_FUEL), 0);
        Check.same("all others are", y.logs(), 400);
        y.reset();
        Check.same("after reset", y.order(LOG, 0, 0, 0), 1);
    }

    private static void clearing() {
        sentence("There are no orders any more (registers, the log stay).");
        RobotCell x = after(ALL_KINDS);
        ends(x, 0, SET, 3, 1, 1, MSET, 3, 1, 2, LOG, 3, 0, 0);
        long[] before = state(x);
        x.clear();
        Check.that("registers and the log stay", java.util.Arrays.equals(before, state(x)));
        Check.same("the log stays", x.logged(0), 0x100000001L);
        Check.same("no orders", x.run(ALL_FUEL), 0);
        Check.same("none was done", x.fault(1), 0);
        Check.that("nothing was done", java.util.Arrays.equals(before, state(x)));
        x.clear();
        Check.same("how many there are now", x.order(END, 0, 0, 0), 1);
        RobotCell y = new RobotCell();
        y.clear();
        Check.same("of a new one", y.order(END, 0, 0, 0), 1);
    }

    private static void numbering() {
        sentence("number: Number r is high * 2^32 + low (without a sign).");
        int[][] parts = {{0, -1}, {-1, 0}, {-1, -1}, {Integer.MAX_VALUE, -1}, {Integer.MIN_VALUE, 0}, {0, Integer.MIN_VALUE},
            {-1, Integer.MIN_VALUE}, {0, 0}};
        long[] wants = {0xffffffffL, -0x100000000L, -1, MOST, LEAST, 0x80000000L, -0x80000000L, 0};
        RobotCell x = new RobotCell();
        for (int i = 0; i < parts.length; i++) {
            x.number(i, parts[i][0], parts[i][1]);
        }
        for (int i = 0; i < parts.length; i++) {
            Check.same("number " + i, x.told(i), wants[i]);
        }
        Check.same("others stay", x.told(8), 0);
    }

    private static void runningFuel() {
        sentence("with so much FUEL (0 .. 20000; others: NONE, nothing is done)");
        for (int fuel : new int[] {-1, 20001, Integer.MIN_VALUE, Integer.MAX_VALUE, 65536, -20000}) {
            RobotCell x = Check.cell(LOG, 0, 0, 0);
            Check.same("FUEL " + fuel, x.run(fuel), -1);
            Check.same("nothing is done", x.logs(), 0);
            Check.same("it is no run", x.fault(1), -1);
        }
        RobotCell x = Check.cell(LOG, 0, 0, 0);
        Check.same("FUEL 0", x.run(0), Check.STOPPED);
        Check.same("FUEL 0", x.logs(), 0);
        Check.same("FUEL 0 is a run", x.fault(1), 0);
        Check.same("FUEL 1", x.run(1), 0);
        Check.same("FUEL 20000", x.run(20000), 0);
        Check.same("FUEL 19999", x.run(19999), 0);
        RobotCell y = Check.cell(REPEAT, 1, 1, 0, LOG, 0, 0, 0);
        y.number(1, 0, 9999);
        Check.same("all of 20000", y.run(20000), 0);
        Check.same("all of 20000", y.logs(), 10000);
        Check.same("not of 19999", y.run(19999), Check.STOPPED);
        Check.same("each run has its own", y.run(20000), 0);
    }

    private static void runningFromOrderZero() {
        sentence("The block from order 0 on is done");
        RobotCell x = Check.cell(ADD, 1, 1, 2, END, 0, 0, 0, RAISE, 0, 0, 0);
        x.number(2, 0, 1);
        for (int i = 1; i <= 3; i++) {
            Check.same("run", x.run(ALL_FUEL), 0);
            Check.same("from order 0 on, up to the END", x.told(1), i);
        }
    }

    private static void runningAnswers() {
        sentence("0 it is through, 1 .. 9 a fault that was not caught, 10 STOPPED.");
        Check.same("through", Check.cell(END, 0, 0, 0).run(1), 0);
        for (int kind = 1; kind <= 9; kind++) {
            ends(numbers(kind), kind, RAISE, 1, 0, 0);
            ends(numbers(kind), 0, TRY, 2, 2, 0, END, 0, 0, 0, RAISE, 1, 0, 0);
        }
        Check.same("STOPPED", Check.cell(END, 0, 0, 0).run(0), 10);
        ends(numbers(10), Check.KIND, RAISE, 1, 0, 0);
    }

    private static void runsGoOn() {
        sentence("registers, the log stay (from run to run)");
        RobotCell x = after(SET, 1, 0, 7, LOG, 1, 0, 0, MSET, 1, 1, 2, POSE, 1, 0, 0);
        ends(x, Check.KIND, LOG, 1, 0, 0, RAISE, 0, 0, 0);
        Check.same("told", x.told(1), 7);
        Check.bits("bits", x.bits(1), 0.5);
        Check.same("slot", x.slot(1, 0), 11);
        Check.same("logged", x.logged(1), 7);
    }

    private static void faultOrders() {
        sentence("Of the latest run's fault that was not caught: its order (what 0; STOPPED has none)");
        RobotCell x = new RobotCell();
        ends(x, Check.KIND, RAISE, 0, 0, 0);
        Check.same("order 0", x.fault(0), 0);
        ends(x, Check.KIND, CALL, 0, 2, 0, END, 0, 0, 0, LOG, 0, 0, 0, RAISE, 0, 0, 0);
        Check.same("in an inner block", x.fault(0), 3);
        Check.same("STOPPED", x.run(2), Check.STOPPED);
        Check.same("STOPPED has none", x.fault(0), -1);
        ends(x, Check.ZERO, TRY, 2, 3, 0, DIV, 0, 0, 0, END, 0, 0, 0, RAISE, 0, 0, 0);
        Check.same("one behind a caught one", x.fault(0), 1);
        sentence("0: NONE without such a fault.");
        ends(x, 0, TRY, 2, 2, 0, END, 0, 0, 0, RAISE, 0, 0, 0);
        Check.same("one that was caught", x.fault(0), -1);
        ends(x, 0, LOG, 0, 0, 0);
        Check.same("none at all", x.fault(0), -1);
    }

    private static void faultCounts() {
        sentence("how many orders were done in the run, the one that failed, too (1)");
        RobotCell x = new RobotCell();
        ends(x, Check.KIND, LOG, 0, 0, 0, LOG, 0, 0, 0, RAISE, 0, 0, 0, LOG, 0, 0, 0);
        Check.same("with the one that failed", x.fault(1), 3);
        ends(x, 0, LOG, 0, 0, 0, END, 0, 0, 0, LOG, 0, 0, 0);
        Check.same("with the END", x.fault(1), 2);
        ends(x, 0, SET, 1, 0, 1, SKIP, 1, 2, 0, LOG, 0, 0, 0, LOG, 0, 0, 0, LOG, 0, 0, 0);
        Check.same("without those that are passed", x.fault(1), 3);
        ends(x, 0, SET, 1, 0, 5, REPEAT, 1, 3, 0, END, 0, 0, 0, LOG, 0, 0, 0);
        Check.same("each time anew", x.fault(1), 8);
        Check.same("STOPPED", x.run(5), Check.STOPPED);
        Check.same("STOPPED: SET, REPEAT, a turn, LOG, a turn", x.fault(1), 3);
        ends(x, Check.KIND, TRY, 2, 3, 0, LOG, 0, 0, 0, RAISE, 0, 0, 0, DIV, 0, 0, 9);
        Check.same("with those of blocks that a fault left", x.fault(1), 4);
        Check.same("no FUEL", x.run(0), Check.STOPPED);
        Check.same("no FUEL", x.fault(1), 0);
    }

    private static void faultWithoutARun() {
        sentence("NONE without a run");
        RobotCell x = Check.cell(LOG, 0, 0, 0);
        Check.same("0", x.fault(0), -1);
        Check.same("1", x.fault(1), -1);
        x.run(-1);
        x.run(20001);
        Check.same("0, after refused ones", x.fault(0), -1);
        Check.same("1, after refused ones", x.fault(1), -1);
    }

    private static void faultOfAnotherWhat() {
        sentence("NONE .. of another what");
        RobotCell x = new RobotCell();
        ends(x, Check.KIND, RAISE, 0, 0, 0);
        for (int what : new int[] {-1, 2, 3, 10, 256, 257, 65536, Integer.MIN_VALUE, Integer.MIN_VALUE + 1, Integer.MAX_VALUE}) {
            Check.same("what " + what, x.fault(what), -1);
        }
        Check.same("what 1", x.fault(1), 1);
    }

    private static void faultOfTheLatestRun() {
        sentence("Of the latest run's fault");
        RobotCell x = new RobotCell();
        ends(x, Check.KIND, LOG, 0, 0, 0, RAISE, 0, 0, 0);
        x.run(-1);
        Check.same("a refused one is no run", x.fault(0), 1);
        Check.same("a refused one is no run", x.fault(1), 2);
        x.order(LOG, 0, 0, 0);
        x.number(0, 0, 1);
        x.clear();
        Check.same("other calls are no run", x.fault(0), 1);
        Check.same("other calls are no run", x.fault(1), 2);
        Check.same("one without orders is", x.run(0), 0);
        Check.same("one without orders is", x.fault(0), -1);
        Check.same("one without orders is", x.fault(1), 0);
    }

    private static void telling() {
        sentence("told: Number r.");
        RobotCell x = new RobotCell();
        for (int r = 0; r < 16; r++) {
            Check.number(x, r, LEAST + r);
        }
        for (int r = 0; r < 16; r++) {
            Check.same("told", x.told(r), LEAST + r);
            Check.same("told", x.told(r - 16), LEAST + r);
            Check.same("told", x.told(r + 16), LEAST + r);
        }
        Check.same("told", x.told(Integer.MIN_VALUE), LEAST);
        Check.same("told", x.told(Integer.MAX_VALUE), LEAST + 15);
    }

    private static void tellingBits() {
        sentence("bits: Measure r's bits (of LOST 0x7ff8000000000000).");
        RobotCell x = new RobotCell();
        for (int r = 0; r < 16; r++) {
            Check.more(x, MSET, r, r - 8, 0);
        }
        x.run(ALL_FUEL);
        for (int r = 0; r < 16; r++) {
            long want = r < 8 ? 0xfff0000000000000L : r > 8 ? 0x7ff0000000000000L : 0x7ff8000000000000L;
            Check.same("bits", x.bits(r), want);
            Check.same("bits", x.bits(r - 32), want);
        }
        RobotCell y = numbers(-1L);
        ends(y, 0, TOM, 1, 1, 1);
        Check.same("of LOST", y.bits(1), 0x7ff8000000000000L);
        RobotCell z = measures(-0.0);
        Check.same("of -0", z.bits(1), LEAST);
    }

    private static void slotKinds() {
        sentence("slot: What slot r has: its kind, or NONE (what 0)");
        RobotCell x = after(ALL_KINDS);
        for (int r = 1; r <= 16; r++) {
            Check.same("kind", x.slot(r, 0), r);
            Check.same("kind", x.slot(r - 32, 0), r);
        }
        ends(x, 0, MAKE, 5, 1, 0, DROP, 6, 0, 0);
        Check.same("SIGNALS", x.slot(5, 0), 0);
        Check.same("EMPTY", x.slot(6, 0), -1);
    }

    private static void slotPlaces() {
        sentence("how many places a ROW has, or NONE (1)");
        RobotCell x = after(ALL_KINDS);
        for (int r = 1; r <= 16; r++) {
            Check.same("places", x.slot(r, 1), r <= 10 ? 2 : -1);
        }
        ends(x, 0, MAKE, 5, 9, 0, SET, 8, 0, 64, MAKE, 6, 8, 9, DROP, 7, 0, 0);
        Check.same("no places", x.slot(5, 1), 0);
        Check.same("the most", x.slot(6, 1), 64);
        Check.same("EMPTY", x.slot(7, 1), -1);
    }

    private static void slotFirsts() {
        sentence("the first slot that has the same thing, itself too, or NONE (2)");
        RobotCell x = after(POSE, 3, 0, 0, MOVE, 9, 3, 0, MOVE, 15, 3, 0, POSE, 5, 0, 0, MOVE, 0, 5, 0);
        Check.same("itself", x.slot(3, 2), 3);
        Check.same("an earlier one", x.slot(9, 2), 3);
        Check.same("an earlier one", x.slot(15, 2), 3);
        Check.same("slot 0", x.slot(5, 2), 0);
        Check.same("slot 0", x.slot(16, 2), 0);
        Check.same("EMPTY ones are not the same", x.slot(1, 2), -1);
        ends(x, 0, DROP, 3, 0, 0);
        Check.same("when that is gone", x.slot(15, 2), 9);
        RobotCell y = numbers(1);
        ends(y, 0, MAKE, 1, 1, 4, MAKE, 2, 1, 4);
        Check.same("alike is not the same", y.slot(2, 2), 2);
    }

    private static void slotOfAnotherWhat() {
        sentence("NONE for another what.");
        RobotCell x = after(ALL_KINDS);
        for (int what : new int[] {-1, 3, 4, 256, Integer.MIN_VALUE, Integer.MAX_VALUE, 1 << 16}) {
            Check.same("a ROW", x.slot(4, what), -1);
            Check.same("a POSE", x.slot(11, what), -1);
            Check.same("EMPTY", new RobotCell().slot(4, what), -1);
        }
    }

    private static void placesOfNumbers() {
        sentence("place: Place i of the ROW in slot r: a number");
        for (int kind = 0; kind <= 5; kind++) {
            RobotCell x = numbers(3, -2, 2);
            ends(x, 0, MAKE, 1, 1, kind, STORE + kind, 2, 1, 3);
            long[] wants = {1, 65534, -2, -2, -2, -2};
            Check.same("place 2", x.place(1, 2), wants[kind]);
            Check.same("place 2", x.place(17, 2), wants[kind]);
            Check.same("place 1", x.place(1, 1), 0);
        }
    }

    private static void placesOfFractions() {
        sentence("a fraction's bits (of LOST as in LOG and TON)");
        double[] values = {NO_NUMBER, -INFINITY, -0.0, -1, 0.1};
        long[] of32 = {0x7fc00000, (int) 0xff800000L, Integer.MIN_VALUE, (int) 0xbf800000L, 0x3dcccccd};
        long[] of64 = {0x7ff8000000000000L, 0xfff0000000000000L, LEAST, 0xbff0000000000000L, 0x3fb999999999999aL};
        for (int i = 0; i < values.length; i++) {
            RobotCell x = measures(values[i]);
            x.number(1, 0, 1);
            ends(x, 0, MAKE, 6, 1, 6, MAKE, 7, 1, 7, STORE + 6, 1, 6, 0, STORE + 7, 1, 7, 0);
            Check.same("SAMPLES", x.place(6, 0), of32[i]);
            Check.same("MEASURES", x.place(7, 0), of64[i]);
        }
    }

    private static void placesOfThings() {
        sentence("a POSE's mark or a ROW's length, or NONE where it is EMPTY");
        RobotCell x = after(ALL_KINDS);
        ends(x, 0, SET, 3, -1, -1, WRITE, 3, 11, 3, SET, 3, 0, 9, WRITE, 3, 12, 3, STORE + 8, 11, 8, 9, STORE + 9, 12, 9, 9,
                SET, 4, 0, 1, STORE + 8, 12, 8, 4, MAKE, 4, 9, 4, STORE + 10, 4, 10, 9);
        Check.same("a POSE's mark, which is -1 here", x.place(8, 0), -1);
        Check.same("a GRASP's mark", x.place(8, 1), 9);
        Check.same("a GRASP's mark", x.place(9, 0), 9);
        Check.same("EMPTY", x.place(9, 1), -1);
        Check.same("a ROW's length", x.place(10, 0), 0);
        Check.same("a ROW's length", x.place(10, 1), 2);
        ends(x, 0, DROP, 4, 0, 0, STORE + 10, 4, 10, 9);
        Check.same("EMPTY", x.place(10, 0), -1);
    }

    private static void placesWithoutARow() {
        sentence("IllegalStateException: there is no ROW");
        RobotCell x = after(ALL_KINDS);
        for (int kind = 11; kind <= 16; kind++) {
            for (int i : new int[] {0, -1, 64, Integer.MIN_VALUE}) {
                int slot = kind;
                Check.fails("kind " + kind, IllegalStateException.class, () -> x.place(slot, i));
            }
        }
        RobotCell y = new RobotCell();
        for (int r : new int[] {0, 15, 16, -1, Integer.MIN_VALUE, Integer.MAX_VALUE}) {
            Check.fails("EMPTY", IllegalStateException.class, () -> y.place(r, 0));
            Check.fails("EMPTY", IllegalStateException.class, () -> y.place(r, -1));
        }
    }

    private static void placesThatAreNot() {
        sentence("IndexOutOfBoundsException: no such place.");
        for (int kind = 0; kind <= 10; kind++) {
            RobotCell x = after(SET, 1, 0, 2, kind == 10 ? GRID : MAKE, 1, 1, kind == 10 ? 1 : kind, SET, 1, 0, 0,
                    kind == 10 ? GRID : MAKE, 2, 1, kind == 10 ? 1 : kind);
            for (int i : new int[] {2, -1, 3, 64, Integer.MIN_VALUE, Integer.MAX_VALUE, 1 << 16}) {
                Check.fails("place " + i + " of kind " + kind, IndexOutOfBoundsException.class, () -> x.place(1, i));
            }
            Check.fails("of no places", IndexOutOfBoundsException.class, () -> x.place(2, 0));
            Check.same("it goes on", x.place(1, 1), kind >= 8 ? kind == 10 ? 2 : -1 : 0);
        }
    }

    private static void logging() {
        sentence("logged: Number i of the log; 0 if there is none.");
        RobotCell x = numbers(5, 205, 1);
        Check.same("none yet", x.logged(0), 0);
        ends(x, 0, LOG, 1, 0, 0);
        Check.same("the first", x.logged(0), 5);
        for (int i : new int[] {1, -1, 199, 200, 256, Integer.MIN_VALUE, Integer.MAX_VALUE}) {
            Check.same("number " + i, x.logged(i), 0);
        }
        ends(x, 0, REPEAT, 2, 2, 0, END, 0, 0, 0, ADD, 1, 1, 3, LOG, 1, 0, 0);
        Check.same("the 200th", x.logged(199), 204);
        Check.same("the 201st isn't kept", x.logged(200), 0);
        Check.same("the 206th isn't kept", x.logged(205), 0);
        Check.same("below 0", x.logged(-1), 0);
        Check.same("the first stays", x.logged(0), 5);
    }

    private static void countingTheLog() {
        sentence("logs: How many numbers came on the log (also such as were not kept).");
        RobotCell x = numbers(200);
        Check.same("none", x.logs(), 0);
        ends(x, 0, REPEAT, 1, 2, 0, END, 0, 0, 0, LOG, 1, 0, 0);
        Check.same("200", x.logs(), 200);
        ends(x, 0, LOG, 1, 0, 0);
        Check.same("201", x.logs(), 201);
        ends(x, 0, MLOG, 1, 0, 0);
        Check.same("202", x.logs(), 202);
        x.number(1, 0, 6000);
        ends(x, 0, REPEAT, 1, 2, 0, END, 0, 0, 0, LOG, 1, 0, 0);
        Check.same("6202", x.logs(), 6202);
        x.clear();
        Check.same("clear leaves it", x.logs(), 6202);
    }

    private static void resetting() {
        sentence("reset: All is as at first, no orders either");
        RobotCell x = after(ALL_KINDS);
        ends(x, Check.ZERO, SET, 3, 0, 9, MSET, 3, 0, 0, LOG, 3, 0, 0, MLOG, 3, 0, 0, TRY, 4, 6, 0, CALL, 0, 7, 0,
                RAISE, 9, 0, 0, DIV, 0, 0, 10);
        x.reset();
        isAsAtFirst(x);
        RobotCell y = new RobotCell();
        y.reset();
        y.reset();
        isAsAtFirst(y);
        RobotCell z = Check.cell(LOG, 0, 0, 0);
        z.run(0);
        z.reset();
        isAsAtFirst(z);
    }

    private static void resettingInTheMidst() {
        sentence("but for what section 1 says of a life.");
        RobotCell x = numbers(3999);
        ends(x, 0, REPEAT, 1, 2, 0, END, 0, 0, 0, POSE, 0, 0, 0);
        x.reset();
        ends(x, 0, POSE, 0, 0, 0);
        x.reset();
        ends(x, Check.LIMIT, POSE, 0, 0, 0);
        RobotCell y = numbers(1999);
        ends(y, 0, REPEAT, 1, 2, 0, END, 0, 0, 0, TRY, 2, 4, 0, END, 0, 0, 0, RAISE, 0, 0, 0);
        y.reset();
        ends(y, Check.KIND, RAISE, 0, 0, 0);
        y.reset();
        ends(y, Check.STOPPED, RAISE, 0, 0, 0);
        sentence("All is as at first: the log keeps its first 200 anew");
        RobotCell z = numbers(300);
        ends(z, 0, REPEAT, 1, 2, 0, END, 0, 0, 0, LOG, 1, 0, 0);
        z.reset();
        z.number(1, 0, 7);
        ends(z, 0, LOG, 1, 0, 0);
        Check.same("logged", z.logged(0), 7);
        Check.same("the old ones are gone", z.logged(1), 0);
        Check.same("logs", z.logs(), 1);
    }

    private static void theLastCalls() {
        sentence("An object is used for at most 512 calls after it has been made");
        RobotCell x = new RobotCell();
        for (int i = 0; i < 400; i++) {
            x.order(CALL, 0, i + 1, 0);
        }
        for (int i = 400; i < 511; i++) {
            x.run(20000);
        }
        Check.same("the 512th", x.run(20000), Check.DEEP);
    }
}
