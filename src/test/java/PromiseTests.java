/** Each promise of the document by its number: ordinary inputs, the edges it names, wrong inputs. */
public final class PromiseTests {
    private PromiseTests() {
    }

    public static void main(String[] args) {
        newObject();
        orders();
        clearing();
        numbers();
        running();
        lastFault();
        telling();
        bitsOfMeasures();
        slots();
        places();
        theLog();
        resetting();
        livesAreNotReset();
        Check.end();
    }

    private static void isAsAtFirst(String what, RobotCell x) {
        for (int r = 0; r < 16; r++) {
            Check.same(what + " told " + r, x.told(r), 0);
            Check.same(what + " bits " + r, x.bits(r), 0);
            Check.same(what + " slot " + r, x.slot(r, 0), -1);
        }
        Check.same(what + " logs", x.logs(), 0);
        Check.same(what + " logged", x.logged(0), 0);
        Check.same(what + " fault 0", x.fault(0), -1);
        Check.same(what + " fault 1", x.fault(1), -1);
        Check.same(what + " run", x.run(0), 0);
        Check.same(what + " fault 1 after a run", x.fault(1), 0);
        Check.same(what + " first order", x.order(0, 0, 0, 0), 1);
    }

    private static void newObject() {
        Check.same("1 NONE", RobotCell.NONE, -1);
        isAsAtFirst("1", new RobotCell());
    }

    private static void orders() {
        RobotCell x = new RobotCell();
        Check.same("2 any numbers", x.order(Integer.MIN_VALUE, Integer.MAX_VALUE, -1, 7), 1);
        for (int i = 2; i <= 400; i++) {
            Check.same("2 order", x.order(20, 0, 0, 0), i);
        }
        Check.same("2 the 401st", x.order(20, 0, 0, 0), -1);
        Check.same("2 the 402nd", x.order(20, 0, 0, 0), -1);
        Check.same("2 runs", x.run(1000), Check.KIND);
        x.clear();
        for (int i = 1; i <= 400; i++) {
            x.order(20, 0, 0, 0);
        }
        Check.same("2 all 400 are done", x.run(1000), 0);
        Check.same("2 400 done", x.fault(1), 400);
    }

    private static void clearing() {
        RobotCell x = Check.cell(1, 3, 0, 9, 20, 3, 0, 0, 24, 2, 1, 2, 80, 4, 0, 0, 18, 3, 0, 0);
        Check.same("3 run", x.run(100), Check.DEEP);
        x.clear();
        Check.same("3 number stays", x.told(3), 9);
        Check.bits("3 measure stays", x.bits(2), 0.5);
        Check.same("3 slot stays", x.slot(4, 0), 11);
        Check.same("3 log stays", x.logged(0), 9);
        Check.same("3 fault stays", x.fault(0), 4);
        Check.same("3 done stays", x.fault(1), 5);
        Check.same("3 nothing to run", x.run(100), 0);
        Check.same("3 nothing done", x.fault(1), 0);
        Check.same("3 counts anew", x.order(0, 0, 0, 0), 1);
    }

    private static void numbers() {
        RobotCell x = new RobotCell();
        x.number(0, 1, -1);
        Check.same("4 low has no sign", x.told(0), 0x1ffffffffL);
        x.number(15, -1, 0);
        Check.same("4 high has one", x.told(15), -0x100000000L);
        x.number(16, 0, 5);
        Check.same("4 register 16 is 0", x.told(0), 5);
        x.number(-1, 0, 6);
        Check.same("4 register -1 is 15", x.told(15), 6);
        x.number(Integer.MIN_VALUE + 3, 0x80000000, 0);
        Check.same("4 register 3", x.told(3), Long.MIN_VALUE);
    }

    private static void running() {
        RobotCell x = Check.cell(20, 0, 0, 0, 0, 0, 0, 0, 20, 0, 0, 0);
        Check.same("5 below 0", x.run(-1), -1);
        Check.same("5 above 20000", x.run(20001), -1);
        Check.same("5 nothing was done", x.logs(), 0);
        Check.same("5 no run yet", x.fault(1), -1);
        Check.same("5 no fuel", x.run(0), 10);
        Check.same("5 nothing was done", x.logs(), 0);
        Check.same("5 none for END", x.run(1), 10);
        Check.same("5 one was done", x.logs(), 1);
        Check.same("5 just enough", x.run(2), 0);
        Check.same("5 END ends it", x.logs(), 2);
        Check.same("5 all the fuel", x.run(20000), 0);
        for (int kind = 1; kind <= 9; kind++) {
            Check.outcome("5 fault " + kind, kind, 1, 1, 0, 0, kind, 18, 0, 0, 0);
        }
    }

    private static void lastFault() {
        RobotCell x = new RobotCell();
        Check.same("6 without a run", x.fault(0), -1);
        Check.same("6 without a run", x.fault(1), -1);
        Check.more(x, 1, 0, 0, 6, 18, 0, 0, 0, 20, 0, 0, 0);
        Check.same("6 run", x.run(10), 6);
        Check.same("6 its order", x.fault(0), 1);
        Check.same("6 the failed one counts", x.fault(1), 2);
        Check.same("6 another what", x.fault(2), -1);
        Check.same("6 another what", x.fault(-1), -1);
        Check.same("6 no run", x.run(-5), -1);
        Check.same("6 still the latest", x.fault(0), 1);
        Check.same("6 stopped", x.run(1), 10);
        Check.same("6 STOPPED has no order", x.fault(0), -1);
        Check.same("6 but a count", x.fault(1), 1);
        x.clear();
        Check.more(x, 1, 1, 0, 3, 15, 1, 3, 0, 0, 0, 0, 0, 20, 0, 0, 0, 0, 0, 0, 0);
        Check.same("6 repeat", x.run(100), 0);
        Check.same("6 turns are no orders", x.fault(1), 9);
        Check.same("6 through has none", x.fault(0), -1);
        Check.same("6 not enough for a turn", x.run(2), 10);
        Check.same("6 SET and REPEAT", x.fault(1), 2);
    }

    private static void telling() {
        RobotCell x = Check.cell(1, 5, -1, -7);
        x.run(1);
        Check.same("7 told", x.told(5), -7);
        Check.same("7 lowest bits", x.told(21), -7);
        Check.same("7 lowest bits", x.told(-11), -7);
        Check.same("7 others", x.told(4), 0);
    }

    private static void bitsOfMeasures() {
        RobotCell x = Check.cell(24, 5, -1, 3, 24, 6, 0, 0, 24, 7, -1, 0, 24, 8, 0, -1);
        x.run(10);
        Check.bits("8 bits", x.bits(5), -1.0 / 3.0);
        Check.bits("8 lowest bits", x.bits(21), -1.0 / 3.0);
        Check.same("8 LOST", x.bits(6), Check.LOST_BITS);
        Check.bits("8 infinity", x.bits(-9), Double.NEGATIVE_INFINITY);
        Check.bits("8 -0", x.bits(8), -0.0);
        Check.number(x, 0, 0xfff0000000000001L);
        Check.again(x, 34, 1, 0, 1);
        Check.same("8 all LOST are one", x.bits(1), Check.LOST_BITS);
    }

    private static void slots() {
        RobotCell x = Check.cell(1, 0, 0, 2, 40, 3, 0, 5, 46, 2, 3, 0, 80, 4, 0, 1, 40, 5, 1, 8, 88, 6, 0, 3);
        x.run(20);
        Check.same("9 kind", x.slot(3, 0), 5);
        Check.same("9 places", x.slot(3, 1), 2);
        Check.same("9 first with it", x.slot(3, 2), 2);
        Check.same("9 itself", x.slot(2, 2), 2);
        Check.same("9 another what", x.slot(3, 3), -1);
        Check.same("9 another what", x.slot(3, -1), -1);
        Check.same("9 a GRASP", x.slot(4, 0), 12);
        Check.same("9 no ROW", x.slot(4, 1), -1);
        Check.same("9 alone", x.slot(4, 2), 4);
        Check.same("9 no places", x.slot(5, 1), 0);
        Check.same("9 a PROBE", x.slot(22, 0), 16);
        Check.same("9 first is 6", x.slot(22, 2), 6);
        for (int what = -1; what < 4; what++) {
            Check.same("9 EMPTY", x.slot(0, what), -1);
        }
    }

    private static void places() {
        RobotCell x = Check.cell(1, 0, 0, 3, 1, 1, -1, -2, 24, 1, 1, 3, 24, 2, 0, 0,
                40, 0, 0, 2, 66, 1, 0, 2, 40, 6, 0, 6, 70, 1, 6, 2, 70, 2, 6, 3, 40, 7, 0, 7, 71, 1, 7, 2,
                80, 11, 0, 1, 82, 1, 11, 3, 40, 8, 0, 8, 72, 11, 8, 2, 41, 10, 0, 0, 40, 9, 2, 1);
        x.number(2, 0, 0);
        x.number(3, 0, 1);
        Check.same("10 run", x.run(100), 0);
        Check.same("10 a number", x.place(0, 0), -2);
        Check.same("10 a new place", x.place(16, 1), 0);
        Check.same("10 a SAMPLE", x.place(6, 0), Float.floatToIntBits(1f / 3f));
        Check.same("10 a LOST SAMPLE", x.place(6, 1), 0x7fc00000);
        Check.bits("10 a MEASURE", x.place(7, 0), 1.0 / 3.0);
        Check.same("10 a POSE's mark", x.place(8, 0), -2);
        Check.same("10 EMPTY", x.place(8, 1), -1);
        Check.same("10 a ROW's length", x.place(10, 2), 3);
        final RobotCell y = x;
        Check.fails("10 place(0, -1)", IndexOutOfBoundsException.class, () -> y.place(0, -1));
        Check.fails("10 place(0, 3)", IndexOutOfBoundsException.class, () -> y.place(0, 3));
        Check.fails("10 place(9, 0)", IndexOutOfBoundsException.class, () -> y.place(9, 0));
        Check.fails("10 place(0, least)", IndexOutOfBoundsException.class, () -> y.place(0, Integer.MIN_VALUE));
        Check.fails("10 an EMPTY slot", IllegalStateException.class, () -> y.place(1, 0));
        Check.fails("10 a POSE", IllegalStateException.class, () -> y.place(11, -1));
    }

    private static void theLog() {
        RobotCell x = Check.cell(1, 0, 0, 205, 1, 2, 0, 1, 15, 0, 5, 0, 24, 1, 0, 0, 21, 1, 0, 0, 20, 1, 0, 0,
                2, 1, 1, 2, 0, 0, 0, 0);
        x.order(0, 0, 0, 0);
        Check.same("11 run", x.run(20000), 0);
        Check.same("12 all that came", x.logs(), 207);
        Check.same("11 first", x.logged(0), 0);
        Check.same("11 kept last", x.logged(199), 199);
        Check.same("11 not kept", x.logged(200), 0);
        Check.same("11 below 0", x.logged(-1), 0);
        Check.same("11 greatest", x.logged(Integer.MAX_VALUE), 0);
        x.reset();
        Check.same("12 none", x.logs(), 0);
        Check.same("11 none", x.logged(7), 0);
        Check.again(x, 24, 1, 0, 0, 21, 1, 0, 0, 24, 1, -1, 2, 21, 1, 0, 0);
        Check.same("11 LOST", x.logged(0), Check.LOST_BITS);
        Check.bits("11 a measure", x.logged(1), -0.5);
        Check.same("12 both", x.logs(), 2);
        Check.same("11 beyond", x.logged(2), 0);
        x.run(20000);
        Check.same("12 the log goes on", x.logs(), 4);
    }

    private static void resetting() {
        RobotCell x = Check.cell(1, 3, 0, 7, 24, 3, 1, 2, 80, 3, 0, 0, 20, 3, 0, 0, 18, 3, 0, 0);
        Check.same("13 run", x.run(100), 7);
        x.reset();
        isAsAtFirst("13", x);
    }

    /** The 4000th thing may be made by any order that makes one, the 4001st by none. */
    private static void theLastThing(int... maker) {
        RobotCell x = Check.cell(1, 0, 0, 3998, 1, 1, 0, 0, 40, 0, 1, 4, 15, 0, 5, 0, 0, 0, 0, 0, 80, 1, 0, 0);
        Check.same("13 3999 things", x.run(20000), 0);
        Check.same("13 the 4000th by " + maker[0], Check.again(x, maker), 0);
        Check.same("13 the 4001st by " + maker[0], Check.again(x, maker), Check.LIMIT);
    }

    private static void livesAreNotReset() {
        RobotCell x = new RobotCell();
        // 16 rows and a grid a turn: 235 turns make 3995.
        int[] grids = {1, 0, 0, 16, 1, 1, 0, 235, 15, 1, 4, 0, 0, 0, 0, 0, 41, 0, 0, 0, 0, 0, 0, 0};
        Check.same("13 grids", Check.again(x, grids), 0);
        x.reset();
        Check.same("13 a grid too many", Check.again(x, 1, 0, 0, 5, 41, 0, 0, 0), Check.LIMIT);
        Check.same("13 nothing came of it", x.slot(0, 0), -1);
        Check.same("13 a grid of 4 fits", Check.again(x, 1, 0, 0, 4, 41, 0, 0, 0), 0);
        int[][] makers = {{40, 2, 2, 0}, {80, 2, 0, 0}, {80, 2, 0, 1}, {88, 2, 0, 0}, {88, 2, 0, 3}, {41, 2, 2, 2}};
        for (int[] maker : makers) {
            theLastThing(maker);
        }
        theLastThing(44, 2, 0, 0);
        for (int[] maker : makers) {
            Check.same("13 one more", Check.again(x, maker), Check.LIMIT);
        }
        Check.again(x, 1, 1, 0, 0, 48 + 10, 3, 0, 1);
        Check.same("13 a clone more", Check.again(x, 44, 2, 3, 0), Check.LIMIT);
        Check.same("13 KIND goes ahead", Check.again(x, 44, 2, 0, 0), Check.KIND);
        Check.same("13 SIZE goes ahead", Check.again(x, 1, 0, -1, -1, 40, 2, 0, 0), Check.SIZE);
        Check.same("13 nothing made", x.slot(2, 0), -1);

        RobotCell y = new RobotCell();
        int[] faults = {1, 0, 0, 1000, 15, 0, 3, 0, 0, 0, 0, 0, 16, 1, 5, 0, 0, 0, 0, 0, 19, 0, 0, 0};
        Check.same("13 1000 faults", Check.again(y, 1, 0, 0, 1000, 15, 0, 3, 0, 0, 0, 0, 0, 16, 1, 5, 0, 0, 0, 0, 0,
                18, 2, 0, 0), 0);
        y.reset();
        // AGAIN without one is NONE, a new fault; with one it is none more.
        Check.same("13 one new, 999 again", Check.again(y, faults), 0);
        y.reset();
        Check.same("13 999 more", Check.again(y, 1, 0, 0, 999, 15, 0, 3, 0, 0, 0, 0, 0, 16, 1, 5, 0, 0, 0, 0, 0,
                18, 2, 0, 0), 0);
        Check.same("13 the 2001st stops", Check.again(y, 16, 0, 3, 0, 20, 0, 0, 0, 0, 0, 0, 0, 18, 2, 0, 0),
                Check.STOPPED);
        Check.same("13 nothing is caught", y.logs(), 0);
        Check.same("13 no order", y.fault(0), -1);
        Check.same("13 a run without a fault", Check.again(y, 20, 0, 0, 0), 0);
        Check.same("13 nothing is put right", Check.again(y, 17, 0, 2, 4, 0, 0, 0, 0, 18, 2, 0, 0, 0, 0, 0, 0,
                20, 0, 0, 0), Check.STOPPED);
        Check.same("13 not logged", y.logs(), 1);
    }
}
