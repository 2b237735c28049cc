import java.util.Arrays;

/**
 * The controller of a robot's cell. Programs of orders work on numbers, measures and things; faults
 * are carried as small numbers that every method hands back, so that no exception is made in a run.
 */
public final class RobotCell {
    public static final int NONE = -1;

    private static final int MOST_ORDERS = 400;
    private static final int MOST_FUEL = 20000;
    private static final int MOST_BLOCKS = 40;
    private static final int MOST_LOGGED = 200;
    private static final int MOST_THINGS = 4000;
    private static final int MOST_FAULTS = 2000;
    private static final int MOST_PLACES = 64;
    private static final int MOST_GRID = 16;
    private static final int MOST_AFTER = 100;

    /* How an order or a block ends: through, one of the nine faults, or stopped. */
    private static final int THROUGH = 0;
    private static final int EMPTY_USED = 1;
    private static final int WRONG_KIND = 2;
    private static final int NO_PLACE = 3;
    private static final int BAD_SIZE = 4;
    private static final int BAD_STORE = 5;
    private static final int BY_ZERO = 6;
    private static final int IS_LOST = 7;
    private static final int OVER_LIMIT = 8;
    private static final int TOO_DEEP = 9;
    private static final int STOPPED = 10;

    /* The kinds of things. */
    private static final int SIGNALS = 0;
    private static final int LETTERS = 1;
    private static final int BYTES = 2;
    private static final int COUNTS = 3;
    private static final int INTS = 4;
    private static final int LONGS = 5;
    private static final int SAMPLES = 6;
    private static final int MEASURES = 7;
    private static final int POSES = 8;
    private static final int GRASPS = 9;
    private static final int GRIDS = 10;
    private static final int A_POSE = 11;
    private static final int A_GRASP = 12;
    private static final int AN_AXIS = 13;
    private static final int A_RAIL = 14;
    private static final int A_WRIST = 15;
    private static final int A_PROBE = 16;

    /* The operations. */
    private static final int END = 0;
    private static final int SET = 1;
    private static final int ADD = 2;
    private static final int SUB = 3;
    private static final int MUL = 4;
    private static final int DIV = 5;
    private static final int REM = 6;
    private static final int AND = 7;
    private static final int XOR = 8;
    private static final int LEFT = 9;
    private static final int RIGHT = 10;
    private static final int LESS = 11;
    private static final int SAME = 12;
    private static final int SKIP = 13;
    private static final int CALL = 14;
    private static final int REPEAT = 15;
    private static final int TRY = 16;
    private static final int SCOPE = 17;
    private static final int RAISE = 18;
    private static final int AGAIN = 19;
    private static final int LOG = 20;
    private static final int MLOG = 21;
    private static final int MSET = 24;
    private static final int MADD = 25;
    private static final int MSUB = 26;
    private static final int MMUL = 27;
    private static final int MDIV = 28;
    private static final int MREM = 29;
    private static final int MONE = 30;
    private static final int MTWO = 31;
    private static final int MTEST = 32;
    private static final int TON = 33;
    private static final int TOM = 34;
    private static final int MAKE = 40;
    private static final int GRID = 41;
    private static final int LENGTH = 42;
    private static final int COPY = 43;
    private static final int CLONE = 44;
    private static final int SORT = 45;
    private static final int MOVE = 46;
    private static final int DROP = 47;
    private static final int LOAD = 48;
    private static final int STORE = 64;
    private static final int POSE = 80;
    private static final int READ = 81;
    private static final int WRITE = 82;
    private static final int SHIFT = 83;
    private static final int APART = 84;
    private static final int DEVICE = 88;
    private static final int GO = 89;
    private static final int TELL = 90;
    private static final int REST = 91;
    private static final int SENSE = 92;

    /* The parts of a pose, by the lowest 3 bits of an order's c. */
    private static final int PART_X = 0;
    private static final int PART_Y = 1;
    private static final int PART_ANGLE = 2;
    private static final int PART_MARK = 3;
    private static final int PART_AFTER = 4;
    private static final int PART_FORCE = 5;
    private static final int PART_CHAIN = 6;

    private final int[] operations = new int[MOST_ORDERS];
    private final int[] firsts = new int[MOST_ORDERS];
    private final int[] seconds = new int[MOST_ORDERS];
    private final int[] thirds = new int[MOST_ORDERS];
    private int orders = 0;

    private final Registers registers = new Registers();

    private final long[] log = new long[MOST_LOGGED];
    private int logCount = 0;

    private int thingsMade = 0;
    private int faultsCome = 0;

    private int fuelLeft = 0;
    private int ordersDone = 0;
    private int faultOrder = NONE;
    private int keptFault = THROUGH;
    private int keptOrder = NONE;
    private int lastOutcome = NONE;

    public RobotCell() {
    }

    // ---- the face

    public int order(int operation, int a, int b, int c) {
        if (orders >= MOST_ORDERS) {
            return NONE;
        }
        operations[orders] = operation;
        firsts[orders] = a;
        seconds[orders] = b;
        thirds[orders] = c;
        orders++;
        return orders;
    }

    public void clear() {
        orders = 0;
    }

    public void number(int r, int high, int low) {
        registers.setNumber(r, wide(high, low));
    }

    public int run(int fuel) {
        if (fuel < 0 || fuel > MOST_FUEL) {
            return NONE;
        }
        fuelLeft = fuel;
        ordersDone = 0;
        faultOrder = NONE;
        keptFault = THROUGH;
        keptOrder = NONE;
        lastOutcome = doBlock(0, 1);
        return lastOutcome;
    }

    public int fault(int what) {
        if (lastOutcome == NONE) {
            return NONE;
        }
        if (what == 0) {
            return isFault(lastOutcome) ? faultOrder : NONE;
        }
        return what == 1 ? ordersDone : NONE;
    }

    public long told(int r) {
        return registers.numberAt(r);
    }

    public long bits(int r) {
        return registers.measureAt(r);
    }

    public int slot(int r, int what) {
        Thing thing = registers.thingAt(r);
        if (thing == null) {
            return NONE;
        }
        switch (what) {
            case 0:
                return thing.kind();
            case 1:
                return thing instanceof Row row ? row.length() : NONE;
            case 2:
                return registers.firstWith(thing);
            default:
                return NONE;
        }
    }

    public long place(int r, int i) throws IllegalStateException, IndexOutOfBoundsException {
        if (!(registers.thingAt(r) instanceof Row row)) {
            throw new IllegalStateException("there is no row");
        }
        if (!row.has(i)) {
            throw new IndexOutOfBoundsException("no such place");
        }
        return row.holdsThings() ? shownThing(row.partAt(i)) : row.valueAt(i);
    }

    public long logged(int i) {
        return i >= 0 && i < logCount && i < MOST_LOGGED ? log[i] : 0;
    }

    public int logs() {
        return logCount;
    }

    public void reset() {
        orders = 0;
        registers.empty();
        logCount = 0;
        ordersDone = 0;
        faultOrder = NONE;
        lastOutcome = NONE;
    }

    // ---- blocks

    private int doBlock(int from, int depth) {
        for (int at = from; at >= 0 && at < orders; at++) {
            if (!takeFuel()) {
                return STOPPED;
            }
            ordersDone++;
            int operation = operations[at];
            if (operation == END) {
                return THROUGH;
            }
            if (operation == SKIP) {
                at += passed(at);
                continue;
            }
            int outcome = doOrder(at, depth);
            if (outcome != THROUGH) {
                return outcome;
            }
        }
        return THROUGH;
    }

    private boolean takeFuel() {
        if (fuelLeft <= 0) {
            return false;
        }
        fuelLeft--;
        return true;
    }

    private int passed(int at) {
        return registers.numberAt(firsts[at]) != 0 ? seconds[at] & 255 : 0;
    }

    /** Orders that begin blocks, and AGAIN, hand on faults that have come already; others' come here. */
    private int doOrder(int at, int depth) {
        int operation = operations[at];
        if (operation >= CALL && operation <= SCOPE) {
            return doInner(at, depth);
        }
        if (operation == AGAIN) {
            return raiseAgain(at);
        }
        int a = firsts[at];
        int b = seconds[at];
        int c = thirds[at];
        int outcome;
        if (operation < CALL) {
            outcome = onNumbers(operation, a, b, c);
        } else if (operation < MSET) {
            outcome = raiseOrLog(operation, a);
        } else if (operation < MAKE) {
            outcome = onMeasures(operation, a, b, c);
        } else if (operation < LOAD) {
            outcome = onThings(operation, a, b, c);
        } else if (operation < STORE) {
            outcome = load(operation - LOAD, a, b, c);
        } else if (operation < POSE) {
            outcome = store(operation - STORE, a, b, c);
        } else if (operation < DEVICE) {
            outcome = onPoses(operation, a, b, c);
        } else {
            outcome = onDevices(operation, a, b, c);
        }
        return raise(outcome, at);
    }

    private int doInner(int at, int depth) {
        if (operations[at] == REPEAT) {
            return repeat(at, depth);
        }
        if (depth >= MOST_BLOCKS) {
            return raise(TOO_DEEP, at);
        }
        switch (operations[at]) {
            case TRY:
                return attempt(at, depth + 1);
            case SCOPE:
                return scope(at, depth + 1);
            default:
                return doBlock(seconds[at], depth + 1);
        }
    }

    private int repeat(int at, int depth) {
        long times = registers.numberAt(firsts[at]);
        // The fuel ends this loop: one turn more than all of it is never begun.
        for (int turn = 0; turn < times && turn <= MOST_FUEL; turn++) {
            if (!takeFuel()) {
                return STOPPED;
            }
            int outcome = depth >= MOST_BLOCKS ? raise(TOO_DEEP, at) : doBlock(seconds[at], depth + 1);
            if (outcome != THROUGH) {
                return outcome;
            }
        }
        return THROUGH;
    }

    private int attempt(int at, int depth) {
        int outcome = doBlock(seconds[at], depth);
        int wanted = thirds[at];
        if (!isFault(outcome) || wanted != 0 && wanted != outcome) {
            return outcome;
        }
        keptFault = outcome;
        keptOrder = faultOrder;
        return giveNumber(firsts[at], outcome);
    }

    private int scope(int at, int depth) {
        int first = doBlock(seconds[at], depth);
        if (first == STOPPED) {
            return STOPPED;
        }
        // The second block may have faults of its own, caught ones too, which would hide this place.
        int firstOrder = faultOrder;
        int second = doBlock(thirds[at], depth);
        if (second != THROUGH) {
            return second;
        }
        faultOrder = firstOrder;
        return first;
    }

    // ---- faults

    private static boolean isFault(int outcome) {
        return outcome >= EMPTY_USED && outcome <= TOO_DEEP;
    }

    /** Lets a fault (or THROUGH, which is none) come at an order; stops when a life has had its share. */
    private int raise(int outcome, int at) {
        if (!isFault(outcome)) {
            return outcome;
        }
        if (faultsCome >= MOST_FAULTS) {
            return STOPPED;
        }
        faultsCome++;
        faultOrder = at;
        return outcome;
    }

    private int raiseAgain(int at) {
        if (keptFault == THROUGH) {
            return raise(EMPTY_USED, at);
        }
        faultOrder = keptOrder;
        return keptFault;
    }

    // ---- orders that begin no block: each method below answers THROUGH or the fault

    private int giveNumber(int r, long value) {
        registers.setNumber(r, value);
        return THROUGH;
    }

    private int giveMeasure(int r, long bits) {
        registers.setMeasure(r, bits);
        return THROUGH;
    }

    private int giveThing(int r, Thing thing) {
        registers.setThing(r, thing);
        return THROUGH;
    }

    private static long wide(int high, int low) {
        return ((long) high << 32) | (low & 0xffffffffL);
    }

    private int onNumbers(int operation, int a, int b, int c) {
        long left = registers.numberAt(b);
        long right = registers.numberAt(c);
        switch (operation) {
            case SET:
                return giveNumber(a, wide(b, c));
            case ADD:
                return giveNumber(a, left + right);
            case SUB:
                return giveNumber(a, left - right);
            case MUL:
                return giveNumber(a, left * right);
            case DIV:
                return right == 0 ? BY_ZERO : giveNumber(a, left / right);
            case REM:
                return right == 0 ? BY_ZERO : giveNumber(a, left % right);
            case AND:
                return giveNumber(a, left & right);
            case XOR:
                return giveNumber(a, left ^ right);
            case LEFT:
                return giveNumber(a, left << (int) (right & 63));
            case RIGHT:
                return giveNumber(a, left >> (int) (right & 63));
            case LESS:
                return giveNumber(a, left < right ? 1 : 0);
            case SAME:
                return giveNumber(a, left == right ? 1 : 0);
            default:
                return WRONG_KIND;
        }
    }

    private int raiseOrLog(int operation, int a) {
        switch (operation) {
            case RAISE:
                long wanted = registers.numberAt(a);
                return wanted >= EMPTY_USED && wanted <= TOO_DEEP ? (int) wanted : WRONG_KIND;
            case LOG:
                return keepLog(registers.numberAt(a));
            case MLOG:
                return keepLog(registers.measureAt(a));
            default:
                return WRONG_KIND;
        }
    }

    private int keepLog(long value) {
        if (logCount < MOST_LOGGED) {
            log[logCount] = value;
        }
        logCount++;
        return THROUGH;
    }

    // ---- measures

    private int onMeasures(int operation, int a, int b, int c) {
        long left = registers.measureAt(b);
        long right = registers.measureAt(c);
        switch (operation) {
            case MSET:
                return giveMeasure(a, Fraction.divide(Fraction.ofWhole(b), Fraction.ofWhole(c)));
            case MADD:
                return giveMeasure(a, Fraction.add(left, right));
            case MSUB:
                return giveMeasure(a, Fraction.subtract(left, right));
            case MMUL:
                return giveMeasure(a, Fraction.multiply(left, right));
            case MDIV:
                return giveMeasure(a, Fraction.divide(left, right));
            case MREM:
                return giveMeasure(a, Fraction.remainder(left, right));
            case MONE:
                return giveMeasure(a, ofOne(left, c & 15));
            case MTWO:
                return giveMeasure(a, ofTwo(a, left, c));
            case MTEST:
                return giveNumber(a, holds((c >> 4) & 7, left, right) ? 1 : 0);
            case TON:
                return toNumber(a, left, c & 7);
            case TOM:
                return giveMeasure(a, toMeasure(registers.numberAt(b), c & 3));
            default:
                return WRONG_KIND;
        }
    }

    private static long ofOne(long measure, int which) {
        switch (which) {
            case 0:
                return Fraction.magnitude(measure);
            case 1:
                return Fraction.wholeNotAbove(measure);
            case 2:
                return Fraction.wholeNotBelow(measure);
            case 3:
                return Fraction.nearestWhole(measure);
            case 4:
                return Fraction.signOf(measure);
            case 5:
                return Fraction.root(measure);
            case 6:
                return Fraction.step(measure);
            case 7:
                return Fraction.nextAbove(measure);
            case 8:
                return Fraction.nextBelow(measure);
            case 9:
                return Fraction.opposite(measure);
            case 10:
                return Fraction.ofWhole(Fraction.exponent(measure));
            case 11:
                return Fraction.ofBits32(Fraction.toBits32(measure));
            default:
                return measure;
        }
    }

    private long ofTwo(int a, long left, int c) {
        long right = registers.measureAt(c);
        switch ((c >> 4) & 7) {
            case 0:
                return Fraction.greater(left, right);
            case 1:
                return Fraction.lesser(left, right);
            case 2:
                return Fraction.withSign(left, right);
            case 3:
                return Fraction.add(Fraction.multiply(left, right), registers.measureAt(a));
            case 4:
                return Fraction.ofWhole(Fraction.rankOf(left, right));
            case 5:
                return Fraction.scaled(left, registers.numberAt(c));
            case 6:
                return Fraction.middle(left, right);
            default:
                return left;
        }
    }

    private static boolean holds(int test, long left, long right) {
        switch (test) {
            case 0:
                return Fraction.isLess(left, right);
            case 1:
                return Fraction.isLess(left, right) || Fraction.isLike(left, right);
            case 2:
                return Fraction.isLess(right, left);
            case 3:
                return Fraction.isLess(right, left) || Fraction.isLike(left, right);
            case 4:
                return Fraction.isLike(left, right);
            default:
                return !Fraction.isLike(left, right);
        }
    }

    private int toNumber(int a, long measure, int which) {
        if (which <= 2 && Fraction.isLost(measure)) {
            return IS_LOST;
        }
        switch (which) {
            case 0:
                return giveNumber(a, Fraction.cut(measure));
            case 1:
                return giveNumber(a, within32(Fraction.cut(measure)));
            case 2:
                return giveNumber(a, Fraction.halfUp(measure));
            case 3:
                return giveNumber(a, measure);
            case 4:
                return giveNumber(a, Fraction.toBits32(measure));
            case 5:
                return giveNumber(a, Fraction.isLost(measure) ? 1 : 0);
            default:
                return giveNumber(a, 0);
        }
    }

    private static long within32(long number) {
        return Math.max(Integer.MIN_VALUE, Math.min(Integer.MAX_VALUE, number));
    }

    private static long toMeasure(long number, int which) {
        switch (which) {
            case 0:
                return Fraction.ofWhole(number);
            case 1:
                return Fraction.ofBits(number);
            case 2:
                return Fraction.ofBits32((int) number);
            default:
                return Fraction.ofBits32(Fraction.wholeToBits32(number));
        }
    }

    // ---- things and rows

    private boolean mayMake(int more) {
        return thingsMade + more <= MOST_THINGS;
    }

    private int giveNew(int a, Thing thing) {
        thingsMade++;
        return giveThing(a, thing);
    }

    private int onThings(int operation, int a, int b, int c) {
        Thing thing = registers.thingAt(b);
        switch (operation) {
            case MAKE:
                return makeRow(a, registers.numberAt(b), c);
            case GRID:
                return makeGrid(a, registers.numberAt(b), registers.numberAt(c));
            case LENGTH:
                return tellLength(a, thing);
            case COPY:
                return copy(registers.thingAt(a), thing, c);
            case CLONE:
                return cloneInts(a, thing);
            case SORT:
                return giveNumber(a, thing == null ? NONE : thing.kind());
            case MOVE:
                return giveThing(a, thing);
            case DROP:
                return giveThing(a, null);
            default:
                return WRONG_KIND;
        }
    }

    private int makeRow(int a, long places, int kind) {
        if (kind < SIGNALS || kind > GRASPS) {
            return WRONG_KIND;
        }
        if (places < 0) {
            return BAD_SIZE;
        }
        if (places > MOST_PLACES || !mayMake(1)) {
            return OVER_LIMIT;
        }
        return giveNew(a, new Row(kind, (int) places));
    }

    private int makeGrid(int a, long rows, long places) {
        if (rows < 0 || places < 0) {
            return BAD_SIZE;
        }
        if (rows > MOST_GRID || places > MOST_GRID || !mayMake(1 + (int) rows)) {
            return OVER_LIMIT;
        }
        Row grid = new Row(GRIDS, (int) rows);
        for (int i = 0; i < rows; i++) {
            grid.setPart(i, new Row(INTS, (int) places));
            thingsMade++;
        }
        return giveNew(a, grid);
    }

    private int tellLength(int a, Thing thing) {
        if (thing == null) {
            return EMPTY_USED;
        }
        return thing instanceof Row row ? giveNumber(a, row.length()) : WRONG_KIND;
    }

    private int cloneInts(int a, Thing thing) {
        if (thing == null) {
            return EMPTY_USED;
        }
        if (!(thing instanceof Row row) || row.kind() != INTS) {
            return WRONG_KIND;
        }
        if (!mayMake(1)) {
            return OVER_LIMIT;
        }
        Row twin = new Row(INTS, row.length());
        twin.takeFrom(row, 0, 0, row.length());
        return giveNew(a, twin);
    }

    private int copy(Thing source, Thing target, int c) {
        if (source == null || target == null) {
            return EMPTY_USED;
        }
        if (!(source instanceof Row from) || !(target instanceof Row to) || !to.isAlike(from)) {
            return BAD_STORE;
        }
        int first = (int) registers.numberAt(c);
        int onto = (int) registers.numberAt(c + 1);
        int count = (int) registers.numberAt(c + 2);
        if (!from.hasRange(first, count) || !to.hasRange(onto, count)) {
            return NO_PLACE;
        }
        return to.takeFrom(from, first, onto, count) ? THROUGH : BAD_STORE;
    }

    private int load(int kind, int a, int b, int c) {
        if (kind > GRIDS) {
            return WRONG_KIND;
        }
        Thing thing = registers.thingAt(b);
        if (thing == null) {
            return EMPTY_USED;
        }
        if (!(thing instanceof Row row) || !row.passesFor(kind)) {
            return WRONG_KIND;
        }
        int i = (int) registers.numberAt(c);
        if (!row.has(i)) {
            return NO_PLACE;
        }
        if (row.holdsThings()) {
            return giveThing(a, row.partAt(i));
        }
        if (kind == SAMPLES) {
            return giveMeasure(a, Fraction.ofBits32((int) row.valueAt(i)));
        }
        return kind == MEASURES ? giveMeasure(a, row.valueAt(i)) : giveNumber(a, row.valueAt(i));
    }

    private int store(int kind, int a, int b, int c) {
        if (kind > GRIDS) {
            return WRONG_KIND;
        }
        Thing part = kind >= POSES ? registers.thingAt(a) : null;
        Thing thing = registers.thingAt(b);
        if (part != null && !Row.mayHold(kind, part)) {
            return WRONG_KIND;
        }
        if (thing == null) {
            return EMPTY_USED;
        }
        if (!(thing instanceof Row row) || !row.passesFor(kind)) {
            return WRONG_KIND;
        }
        int i = (int) registers.numberAt(c);
        if (!row.has(i)) {
            return NO_PLACE;
        }
        if (row.holdsThings()) {
            return row.setPart(i, part) ? THROUGH : BAD_STORE;
        }
        boolean ofMeasures = kind == SAMPLES || kind == MEASURES;
        row.setValue(i, ofMeasures ? registers.measureAt(a) : registers.numberAt(a));
        return THROUGH;
    }

    private static long shownThing(Thing thing) {
        if (thing instanceof Pose pose) {
            return pose.mark;
        }
        return thing instanceof Row row ? row.length() : NONE;
    }

    // ---- poses

    private int onPoses(int operation, int a, int b, int c) {
        switch (operation) {
            case POSE:
                return makePose(a, (c & 1) != 0);
            case READ:
                return read(a, registers.thingAt(b), c & 7);
            case WRITE:
                return write(a, registers.thingAt(b), c & 7);
            case SHIFT:
                return shift(registers.thingAt(a), registers.measureAt(b), registers.measureAt(c));
            case APART:
                return tellApart(a, registers.thingAt(b), registers.thingAt(c));
            default:
                return WRONG_KIND;
        }
    }

    private int makePose(int a, boolean grasping) {
        if (!mayMake(1)) {
            return OVER_LIMIT;
        }
        return giveNew(a, grasping ? new Grasp() : new Pose());
    }

    private int read(int a, Thing thing, int part) {
        if (thing == null) {
            return EMPTY_USED;
        }
        if (!(thing instanceof Pose pose)) {
            return WRONG_KIND;
        }
        switch (part) {
            case PART_X:
                return giveMeasure(a, pose.x);
            case PART_Y:
                return giveMeasure(a, pose.y);
            case PART_ANGLE:
                return giveMeasure(a, pose.angle);
            case PART_MARK:
                return giveNumber(a, pose.mark);
            case PART_AFTER:
                return giveThing(a, pose.after);
            case PART_FORCE:
                return pose instanceof Grasp grasp ? giveMeasure(a, grasp.force) : WRONG_KIND;
            case PART_CHAIN:
                return giveNumber(a, pose.chainLength());
            default:
                return THROUGH;
        }
    }

    private int write(int a, Thing thing, int part) {
        Thing follower = part == PART_AFTER ? registers.thingAt(a) : null;
        if (follower != null && !(follower instanceof Pose)) {
            return WRONG_KIND;
        }
        if (thing == null) {
            return EMPTY_USED;
        }
        if (!(thing instanceof Pose pose)) {
            return WRONG_KIND;
        }
        switch (part) {
            case PART_MARK:
                pose.mark = (int) registers.numberAt(a);
                return THROUGH;
            case PART_AFTER:
                pose.after = follower instanceof Pose next ? next : null;
                return THROUGH;
            default:
                return writeMeasure(pose, part, registers.measureAt(a));
        }
    }

    private static int writeMeasure(Pose pose, int part, long measure) {
        switch (part) {
            case PART_X:
                pose.x = measure;
                return THROUGH;
            case PART_Y:
                pose.y = measure;
                return THROUGH;
            case PART_ANGLE:
                pose.angle = measure;
                return THROUGH;
            case PART_FORCE:
                if (!(pose instanceof Grasp grasp)) {
                    return WRONG_KIND;
                }
                grasp.force = measure;
                return THROUGH;
            default:
                return THROUGH;
        }
    }

    private static int shift(Thing thing, long byX, long byY) {
        if (thing == null) {
            return EMPTY_USED;
        }
        if (!(thing instanceof Pose pose)) {
            return WRONG_KIND;
        }
        pose.x = Fraction.add(pose.x, byX);
        pose.y = Fraction.add(pose.y, byY);
        return THROUGH;
    }

    private int tellApart(int a, Thing one, Thing other) {
        if (one != null && !(one instanceof Pose) || other != null && !(other instanceof Pose)) {
            return WRONG_KIND;
        }
        if (!(one instanceof Pose left) || !(other instanceof Pose right)) {
            return EMPTY_USED;
        }
        return giveMeasure(a, left.apartFrom(right));
    }

    // ---- devices

    private int onDevices(int operation, int a, int b, int c) {
        switch (operation) {
            case DEVICE:
                return makeDevice(a, c & 3);
            case GO:
                return go(a, registers.thingAt(b), registers.measureAt(c));
            case TELL:
                return tell(a, registers.thingAt(b), c & 7);
            case REST:
                return rest(registers.thingAt(a));
            case SENSE:
                return sense(registers.thingAt(a), registers.measureAt(b));
            default:
                return WRONG_KIND;
        }
    }

    private int makeDevice(int a, int which) {
        if (!mayMake(1)) {
            return OVER_LIMIT;
        }
        switch (which) {
            case 0:
                return giveNew(a, new Axis());
            case 1:
                return giveNew(a, new Rail());
            case 2:
                return giveNew(a, new Wrist());
            default:
                return giveNew(a, new Probe());
        }
    }

    private int go(int a, Thing thing, long to) {
        if (thing == null) {
            return EMPTY_USED;
        }
        if (!(thing instanceof Device device)) {
            return WRONG_KIND;
        }
        long ticks = device.goTo(to);
        return ticks < 0 ? (int) -ticks : giveNumber(a, ticks);
    }

    private int tell(int a, Thing thing, int what) {
        if (thing == null) {
            return EMPTY_USED;
        }
        return thing instanceof Device device ? giveMeasure(a, toldOf(device, what)) : WRONG_KIND;
    }

    private static long toldOf(Device device, int what) {
        switch (what) {
            case 0:
                return device.at();
            case 1:
                return Fraction.ofWhole(device.span());
            case 2:
                return Fraction.ofWhole(device.rank());
            case 3:
                return device.travelled();
            case 4:
                return Fraction.ofWhole(device.moves());
            case 5:
                return Fraction.ofWhole(device.speed());
            default:
                return 0;
        }
    }

    private static int rest(Thing thing) {
        if (thing == null) {
            return EMPTY_USED;
        }
        if (!(thing instanceof Axis axis)) {
            return WRONG_KIND;
        }
        axis.comeToRest();
        return THROUGH;
    }

    private static int sense(Thing thing, long reading) {
        if (thing == null) {
            return EMPTY_USED;
        }
        if (!(thing instanceof Probe probe)) {
            return WRONG_KIND;
        }
        probe.keep(reading);
        return THROUGH;
    }

    /** Numbers, measures (as their 64 bits) and slots; a register is named by its lowest 4 bits. */
    private static final class Registers {
        private static final int COUNT = 16;
        private static final int MASK = 15;

        private final long[] numbers = new long[COUNT];
        private final long[] measures = new long[COUNT];
        private final Thing[] slots = new Thing[COUNT];

        long numberAt(int r) {
            return numbers[r & MASK];
        }

        void setNumber(int r, long value) {
            numbers[r & MASK] = value;
        }

        long measureAt(int r) {
            return measures[r & MASK];
        }

        void setMeasure(int r, long bits) {
            measures[r & MASK] = bits;
        }

        Thing thingAt(int r) {
            return slots[r & MASK];
        }

        void setThing(int r, Thing thing) {
            slots[r & MASK] = thing;
        }

        int firstWith(Thing thing) {
            for (int r = 0; r < COUNT; r++) {
                if (slots[r] == thing) {
                    return r;
                }
            }
            return NONE;
        }

        void empty() {
            Arrays.fill(numbers, 0);
            Arrays.fill(measures, 0);
            for (int r = 0; r < COUNT; r++) {
                slots[r] = null;
            }
        }
    }

    /** Whatever a slot may have. */
    private abstract static class Thing {
        abstract int kind();
    }

    /**
     * A row of any kind. Numbers are held as they are told; fractions are held as their bits, those of
     * 32 bits with a sign; poses and rows stand in an array of their own.
     */
    private static final class Row extends Thing {
        private final int kind;
        private final int length;
        private final long[] values;
        private final Thing[] parts;

        Row(int kind, int places) {
            this.kind = kind;
            this.length = places < 0 ? 0 : places;
            boolean ofThings = kind >= POSES;
            this.values = new long[ofThings ? 0 : this.length];
            this.parts = new Thing[ofThings ? this.length : 0];
        }

        @Override
        int kind() {
            return kind;
        }

        int length() {
            return length;
        }

        boolean holdsThings() {
            return kind >= POSES;
        }

        boolean has(int i) {
            return i >= 0 && i < length;
        }

        boolean hasRange(int from, int count) {
            return from >= 0 && count >= 0 && (long) from + count <= length;
        }

        /** Whether an order for rows of the wanted kind may use this one. */
        boolean passesFor(int wanted) {
            return kind == wanted || wanted == POSES && kind == GRASPS;
        }

        boolean isAlike(Row other) {
            return kind == other.kind || holdsThings() && other.holdsThings();
        }

        long valueAt(int i) {
            return i >= 0 && i < values.length ? values[i] : 0;
        }

        void setValue(int i, long value) {
            if (i >= 0 && i < values.length) {
                values[i] = narrowed(value);
            }
        }

        private long narrowed(long value) {
            switch (kind) {
                case SIGNALS:
                    return value != 0 ? 1 : 0;
                case LETTERS:
                    return (char) value;
                case BYTES:
                    return (byte) value;
                case COUNTS:
                    return (short) value;
                case INTS:
                    return (int) value;
                case SAMPLES:
                    return Fraction.toBits32(value);
                default:
                    return value;
            }
        }

        Thing partAt(int i) {
            return i >= 0 && i < parts.length ? parts[i] : null;
        }

        /** Answers whether the thing belongs here; if it doesn't, nothing is changed. */
        boolean setPart(int i, Thing part) {
            if (i < 0 || i >= parts.length || part != null && !mayHold(kind, part)) {
                return false;
            }
            parts[i] = part;
            return true;
        }

        static boolean mayHold(int kind, Thing part) {
            switch (kind) {
                case POSES:
                    return part instanceof Pose;
                case GRASPS:
                    return part instanceof Grasp;
                case GRIDS:
                    return part instanceof Row row && row.kind == INTS;
                default:
                    return false;
            }
        }

        /** Takes a range of an alike row, up to the first thing that doesn't belong: false then. */
        boolean takeFrom(Row from, int first, int onto, int count) {
            if (!from.hasRange(first, count) || !hasRange(onto, count) || !isAlike(from)) {
                return false;
            }
            if (!holdsThings()) {
                System.arraycopy(from.values, first, values, onto, count);
                return true;
            }
            // Within one row all belong; from the far end on, none is written over before it is taken.
            boolean fromEnd = from == this && onto > first;
            for (int k = 0; k < count; k++) {
                int step = fromEnd ? count - 1 - k : k;
                if (!setPart(onto + step, from.partAt(first + step))) {
                    return false;
                }
            }
            return true;
        }
    }

    private static class Pose extends Thing {
        long x = 0;
        long y = 0;
        long angle = 0;
        int mark = 0;
        Pose after = null;

        @Override
        int kind() {
            return A_POSE;
        }

        int chainLength() {
            int count = 0;
            for (Pose pose = this; pose != null && count < MOST_AFTER; pose = pose.after) {
                count++;
            }
            return count;
        }

        long apartFrom(Pose other) {
            long dx = Fraction.subtract(x, other.x);
            long dy = Fraction.subtract(y, other.y);
            return Fraction.root(Fraction.add(Fraction.multiply(dx, dx), Fraction.multiply(dy, dy)));
        }
    }

    private static final class Grasp extends Pose {
        long force = 0;

        @Override
        int kind() {
            return A_GRASP;
        }
    }

    private abstract static class Device extends Thing {
        abstract long at();

        abstract int span();

        abstract int rank();

        abstract int speed();

        abstract long travelled();

        abstract long moves();

        /** Answers the ticks, or the fault's number below 0. */
        abstract long goTo(long x);
    }

    private static class Axis extends Device {
        private long at = 0;
        private long travelled = 0;
        private long moves = 0;

        @Override
        int kind() {
            return AN_AXIS;
        }

        @Override
        long at() {
            return at;
        }

        @Override
        int span() {
            return 100;
        }

        @Override
        int rank() {
            return 3;
        }

        @Override
        int speed() {
            return 10;
        }

        @Override
        long travelled() {
            return travelled;
        }

        @Override
        long moves() {
            return moves;
        }

        @Override
        long goTo(long x) {
            long to = onGrid(withinTurn(x));
            if (Fraction.isLost(to)) {
                return -IS_LOST;
            }
            if (Fraction.isLess(Fraction.ofWhole(span()), Fraction.magnitude(to))) {
                return -OVER_LIMIT;
            }
            long way = Fraction.magnitude(Fraction.subtract(to, at));
            at = to;
            travelled = Fraction.add(travelled, way);
            moves++;
            return ticksFor(way);
        }

        long withinTurn(long x) {
            return x;
        }

        long onGrid(long x) {
            return x;
        }

        private long ticksFor(long way) {
            long two = Fraction.ofWhole(2);
            long fullSpeed = Fraction.ofWhole(speed());
            long time;
            if (Fraction.isLess(way, Fraction.divide(fullSpeed, two))) {
                // Too short a way for the full speed: half of it speeds up, half slows down.
                long part = Fraction.divide(way, Fraction.multiply(two, fullSpeed));
                time = Fraction.multiply(two, Fraction.root(part));
            } else {
                time = Fraction.add(Fraction.divide(way, fullSpeed), Fraction.HALF);
            }
            return Fraction.cut(Fraction.wholeNotBelow(Fraction.multiply(Fraction.ofWhole(10), time)));
        }

        void comeToRest() {
            goHome();
        }

        final void goHome() {
            at = 0;
        }

        final void countMove() {
            moves++;
        }

        final void forgetTravel() {
            travelled = 0;
        }
    }

    private static class Rail extends Axis {
        @Override
        int kind() {
            return A_RAIL;
        }

        @Override
        int span() {
            return 10 * super.span();
        }

        @Override
        int rank() {
            return super.rank() + 1;
        }

        @Override
        int speed() {
            return 40;
        }

        @Override
        long onGrid(long x) {
            long eight = Fraction.ofWhole(8);
            return Fraction.divide(Fraction.nearestWhole(Fraction.multiply(eight, x)), eight);
        }

        @Override
        void comeToRest() {
            super.comeToRest();
            countMove();
        }
    }

    private static final class Wrist extends Rail {
        @Override
        int kind() {
            return A_WRIST;
        }

        @Override
        int span() {
            return 360;
        }

        @Override
        int rank() {
            return 2 * super.rank();
        }

        @Override
        long withinTurn(long x) {
            long turn = Fraction.ofWhole(360);
            long turns = Fraction.wholeNotAbove(Fraction.divide(x, turn));
            return Fraction.add(x, Fraction.opposite(Fraction.multiply(turn, turns)));
        }

        @Override
        void comeToRest() {
            goHome();
            forgetTravel();
        }
    }

    private static final class Probe extends Device {
        private static final int KEPT = 5;

        /* The eldest reading that is kept stands first; each is the bits of a 32 bit fraction. */
        private final int[] readings = new int[KEPT];
        private long had = 0;

        @Override
        int kind() {
            return A_PROBE;
        }

        @Override
        int span() {
            return 1;
        }

        @Override
        int rank() {
            return 1;
        }

        @Override
        int speed() {
            return 0;
        }

        @Override
        long moves() {
            return had;
        }

        @Override
        long goTo(long x) {
            return Fraction.isLost(x) ? -IS_LOST : -OVER_LIMIT;
        }

        void keep(long reading) {
            if (had >= KEPT) {
                System.arraycopy(readings, 1, readings, 0, KEPT - 1);
            }
            readings[keptCount() < KEPT ? keptCount() : KEPT - 1] = Fraction.toBits32(reading);
            had++;
        }

        private int keptCount() {
            return had < KEPT ? (int) had : KEPT;
        }

        @Override
        long at() {
            long sum = 0;
            int count = 0;
            for (int i = 0; i < keptCount(); i++) {
                long reading = Fraction.ofBits32(readings[i]);
                if (!Fraction.isLost(reading)) {
                    sum = Fraction.add(sum, reading);
                    count++;
                }
            }
            return count == 0 ? Fraction.LOST : Fraction.divide(sum, Fraction.ofWhole(count));
        }

        @Override
        long travelled() {
            long greatest = Fraction.LOST;
            long least = Fraction.LOST;
            for (int i = 0; i < keptCount(); i++) {
                long reading = Fraction.ofBits32(readings[i]);
                if (!Fraction.isLost(reading)) {
                    greatest = Fraction.isLost(greatest) ? reading : Fraction.greater(greatest, reading);
                    least = Fraction.isLost(least) ? reading : Fraction.lesser(least, reading);
                }
            }
            return Fraction.isLost(greatest) ? 0 : Fraction.add(greatest, Fraction.opposite(least));
        }
    }

    /**
     * IEEE 754 fractions of 64 bits, worked on as their bits with whole numbers alone: so no step can
     * answer something that is no number but the one pattern LOST.
     */
    private static final class Fraction {
        static final long LOST = 0x7ff8000000000000L;
        static final long HALF = 0x3fe0000000000000L;
        private static final long ONE = 0x3ff0000000000000L;
        private static final long INFINITY = 0x7ff0000000000000L;
        private static final long SIGN = 0x8000000000000000L;
        private static final long TAIL = 0x000fffffffffffffL;
        private static final long LEAD = 0x0010000000000000L;
        private static final int WIDTH = 52;
        private static final int SPARE = 11;
        private static final int BIAS = 1023;
        private static final int LOST32 = 0x7fc00000;
        private static final int INFINITY32 = 0x7f800000;
        private static final int SIGN32 = 0x80000000;
        private static final int TAIL32 = 0x007fffff;
        private static final int WIDTH32 = 23;
        private static final int BIAS32 = 127;
        private static final int MOST_SCALING = 3000;

        private Fraction() {
        }

        // -- looking at bits

        static boolean isLost(long x) {
            return (x & ~SIGN) > INFINITY;
        }

        private static boolean isInfinite(long x) {
            return (x & ~SIGN) == INFINITY;
        }

        private static boolean isZero(long x) {
            return (x & ~SIGN) == 0;
        }

        static long magnitude(long x) {
            return x & ~SIGN;
        }

        private static long signBit(long x) {
            return x & SIGN;
        }

        static int exponent(long x) {
            return (int) ((x & ~SIGN) >>> WIDTH) - BIAS;
        }

        /** A finite x other than 0 is significand(x) * 2^scale(x), the significand of just 53 bits. */
        private static long significand(long x) {
            long tail = x & TAIL;
            return (x & INFINITY) != 0 ? tail | LEAD : tail << (Long.numberOfLeadingZeros(tail) - SPARE);
        }

        private static int scale(long x) {
            int least = 1 - BIAS - WIDTH;
            int field = (int) ((x & INFINITY) >>> WIDTH);
            return field != 0 ? least + field - 1 : least - (Long.numberOfLeadingZeros(x & TAIL) - SPARE);
        }

        // -- rounding

        /**
         * The bits, without a sign, of the fraction nearest to significand * 2^scale (of two the even
         * one), for fractions with so many bits behind the leading one and so much bias.
         */
        private static long nearest(long significand, int scale, int width, int bias) {
            if (significand <= 0) {
                return 0;
            }
            int up = Long.numberOfLeadingZeros(significand) - 1;
            long raised = significand << up;
            int field = scale - up + 62 + bias;
            int most = 2 * bias + 1;
            if (field >= most) {
                return (long) most << width;
            }
            // Below the least exponent fewer bits are kept.
            int cut = 62 - width + Math.max(0, 1 - field);
            if (cut > 63) {
                return 0;
            }
            long kept = raised >>> cut;
            long rest = raised - (kept << cut);
            long half = 1L << (cut - 1);
            if (rest > half || rest == half && (kept & 1) != 0) {
                kept++;
            }
            // The leading bit of kept adds the last 1 to the exponent, and so does a carry.
            return ((long) Math.max(0, field - 1) << width) + kept;
        }

        /** Shifts down; the lowest bit tells whether anything fell off, which is all rounding asks. */
        private static long lowered(long significand, int by) {
            if (by <= 0) {
                return significand;
            }
            if (by > 62) {
                return significand != 0 ? 1 : 0;
            }
            long kept = significand >>> by;
            return kept << by == significand ? kept : kept | 1;
        }

        // -- making fractions, and what they are told as

        static long ofBits(long bits) {
            return isLost(bits) ? LOST : bits;
        }

        static long ofBits32(int bits) {
            int magnitude = bits & ~SIGN32;
            long sign = bits < 0 ? SIGN : 0;
            if (magnitude > INFINITY32) {
                return LOST;
            }
            if (magnitude == INFINITY32) {
                return sign | INFINITY;
            }
            int field = magnitude >>> WIDTH32;
            int tail = magnitude & TAIL32;
            long significand = field != 0 ? tail + TAIL32 + 1 : tail;
            return sign | nearest(significand, (field != 0 ? field : 1) - BIAS32 - WIDTH32, WIDTH, BIAS);
        }

        static int toBits32(long x) {
            if (isLost(x)) {
                return LOST32;
            }
            int sign = x < 0 ? SIGN32 : 0;
            if (isInfinite(x)) {
                return sign | INFINITY32;
            }
            return sign | (int) nearest(significand(x), scale(x), WIDTH32, BIAS32);
        }

        static long ofWhole(long number) {
            return (number < 0 ? SIGN : 0) | nearestToWhole(number, WIDTH, BIAS);
        }

        static int wholeToBits32(long number) {
            return (number < 0 ? SIGN32 : 0) | (int) nearestToWhole(number, WIDTH32, BIAS32);
        }

        private static long nearestToWhole(long number, int width, int bias) {
            // The least number has no opposite, but it is even.
            if (number == Long.MIN_VALUE) {
                return nearest(1L << 62, 1, width, bias);
            }
            return nearest(number < 0 ? -number : number, 0, width, bias);
        }

        /** Cut to whole, within 64 bits; x isn't LOST. */
        static long cut(long x) {
            int exponent = exponent(x);
            if (exponent < 0) {
                return 0;
            }
            if (exponent > 62) {
                return x < 0 ? Long.MIN_VALUE : Long.MAX_VALUE;
            }
            int up = exponent - WIDTH;
            long whole = up < 0 ? significand(x) >>> -up : significand(x) << up;
            return x < 0 ? -whole : whole;
        }

        /** The whole one not above x + 1/2, within 64 bits; x isn't LOST. */
        static long halfUp(long x) {
            int exponent = exponent(x);
            if (exponent < -1) {
                return 0;
            }
            if (exponent >= WIDTH) {
                return cut(x);
            }
            int down = WIDTH - exponent;
            long signed = x < 0 ? -significand(x) : significand(x);
            return (signed + (1L << (down - 1))) >> down;
        }

        // -- of one

        static long opposite(long x) {
            return isLost(x) ? LOST : x ^ SIGN;
        }

        static long signOf(long x) {
            return isLost(x) || isZero(x) ? x : signBit(x) | ONE;
        }

        static long wholeNotAbove(long x) {
            long whole = wholeToZero(x);
            return x < 0 && whole != x ? wholeAway(x) : whole;
        }

        static long wholeNotBelow(long x) {
            long whole = wholeToZero(x);
            return x > 0 && whole != x ? wholeAway(x) : whole;
        }

        private static long wholeToZero(long x) {
            int exponent = exponent(x);
            if (exponent >= WIDTH) {
                return x;
            }
            return exponent < 0 ? signBit(x) : x & ~(TAIL >>> exponent);
        }

        /** The next whole one of greater magnitude, of an x that isn't whole. */
        private static long wholeAway(long x) {
            int exponent = exponent(x);
            return exponent < 0 ? signBit(x) | ONE : (x | (TAIL >>> exponent)) + 1;
        }

        static long nearestWhole(long x) {
            int exponent = exponent(x);
            if (exponent >= WIDTH) {
                return x;
            }
            if (exponent < 0) {
                return magnitude(x) > HALF ? signBit(x) | ONE : signBit(x);
            }
            long unit = LEAD >>> exponent;
            long rest = x & (unit - 1);
            long half = unit >>> 1;
            // At exponent 0 the unit's bit is the exponent's lowest one, which is 1, as 1 is odd.
            boolean up = rest > half || rest == half && (x & unit) != 0;
            return up ? wholeAway(x) : wholeToZero(x);
        }

        static long root(long x) {
            if (isLost(x) || isZero(x)) {
                return x;
            }
            if (x < 0) {
                return LOST;
            }
            if (isInfinite(x)) {
                return x;
            }
            int odd = scale(x) & 1;
            return rootOf(significand(x) << odd, (scale(x) - odd) / 2);
        }

        /** The root of square * 4^halfScale, square of 54 bits at most: digit by digit, 28 more behind. */
        private static long rootOf(long square, int halfScale) {
            long root = 0;
            long rest = 0;
            for (int pair = 26; pair >= -28; pair--) {
                long next = pair >= 0 ? (square >>> (2 * pair)) & 3 : 0;
                rest = (rest << 2) | next;
                long trial = (root << 2) | 1;
                root <<= 1;
                if (rest >= trial) {
                    rest -= trial;
                    root |= 1;
                }
            }
            return nearest((root << 1) | (rest != 0 ? 1 : 0), halfScale - 29, WIDTH, BIAS);
        }

        static long step(long x) {
            if (isLost(x) || isInfinite(x)) {
                return magnitude(x);
            }
            int exponent = exponent(x);
            return exponent < 1 - BIAS ? 1 : nearest(1, exponent - WIDTH, WIDTH, BIAS);
        }

        static long nextAbove(long x) {
            if (isLost(x) || x == INFINITY) {
                return x;
            }
            if (isZero(x)) {
                return 1;
            }
            return x < 0 ? x - 1 : x + 1;
        }

        static long nextBelow(long x) {
            return opposite(nextAbove(opposite(x)));
        }

        static long scaled(long x, long by) {
            if (isLost(x) || isInfinite(x) || isZero(x)) {
                return x;
            }
            int within = (int) Math.max(-MOST_SCALING, Math.min(MOST_SCALING, by));
            return signBit(x) | nearest(significand(x), scale(x) + within, WIDTH, BIAS);
        }

        // -- of two

        static boolean isLike(long x, long y) {
            if (isLost(x) || isLost(y)) {
                return false;
            }
            return x == y || isZero(x) && isZero(y);
        }

        static boolean isLess(long x, long y) {
            if (isLost(x) || isLost(y) || isLike(x, y)) {
                return false;
            }
            return rankOf(x, y) < 0;
        }

        /** -1, 0, 1: with -0 ahead of 0, and LOST last, as its bits are the greatest. */
        static int rankOf(long x, long y) {
            long left = ordered(x);
            long right = ordered(y);
            if (left == right) {
                return 0;
            }
            return left < right ? -1 : 1;
        }

        private static long ordered(long x) {
            return x < 0 ? x ^ ~SIGN : x;
        }

        static long greater(long x, long y) {
            if (isLost(x) || isLost(y)) {
                return LOST;
            }
            return rankOf(x, y) >= 0 ? x : y;
        }

        static long lesser(long x, long y) {
            if (isLost(x) || isLost(y)) {
                return LOST;
            }
            return rankOf(x, y) <= 0 ? x : y;
        }

        static long withSign(long x, long y) {
            return isLost(x) ? LOST : magnitude(x) | signBit(y);
        }

        static long middle(long x, long y) {
            if (isLost(x)) {
                return y;
            }
            return isLost(y) ? x : multiply(add(x, y), HALF);
        }

        static long subtract(long x, long y) {
            return add(x, opposite(y));
        }

        static long add(long x, long y) {
            if (isLost(x) || isLost(y)) {
                return LOST;
            }
            if (isInfinite(x)) {
                return isInfinite(y) && x != y ? LOST : x;
            }
            if (isInfinite(y)) {
                return y;
            }
            if (isZero(x)) {
                return isZero(y) ? x & y : y;
            }
            if (isZero(y)) {
                return x;
            }
            return magnitude(x) >= magnitude(y) ? addLesser(x, y) : addLesser(y, x);
        }

        /** The sum of two finite ones other than 0, y's magnitude not above x's. */
        private static long addLesser(long x, long y) {
            int spare = 9;
            long more = significand(x) << spare;
            long less = lowered(significand(y) << spare, scale(x) - scale(y));
            long sum = signBit(x) == signBit(y) ? more + less : more - less;
            return sum == 0 ? 0 : signBit(x) | nearest(sum, scale(x) - spare, WIDTH, BIAS);
        }

        static long multiply(long x, long y) {
            if (isLost(x) || isLost(y)) {
                return LOST;
            }
            long sign = signBit(x ^ y);
            if (isInfinite(x) || isInfinite(y)) {
                return isZero(x) || isZero(y) ? LOST : sign | INFINITY;
            }
            if (isZero(x) || isZero(y)) {
                return sign;
            }
            int spare = 44;
            long product = productAbove(significand(x), significand(y), spare);
            return sign | nearest(product, scale(x) + scale(y) + spare, WIDTH, BIAS);
        }

        /** The product of two numbers of 53 bits without its lowest bits, 27 to 54 of them; see lowered. */
        private static long productAbove(long x, long y, int without) {
            int half = 27;
            long mask = (1L << half) - 1;
            long low = (x & mask) * (y & mask);
            long middle = (x >>> half) * (y & mask) + (x & mask) * (y >>> half) + (low >>> half);
            long high = (x >>> half) * (y >>> half) + (middle >>> half);
            long rest = ((middle & mask) << half) | (low & mask);
            return (high << (2 * half - without)) | lowered(rest, without);
        }

        static long divide(long x, long y) {
            if (isLost(x) || isLost(y)) {
                return LOST;
            }
            long sign = signBit(x ^ y);
            if (isInfinite(x)) {
                return isInfinite(y) ? LOST : sign | INFINITY;
            }
            if (isZero(y)) {
                return isZero(x) ? LOST : sign | INFINITY;
            }
            if (isZero(x) || isInfinite(y)) {
                return sign;
            }
            long quotient = quotientOf(significand(x), significand(y));
            return sign | nearest(quotient, scale(x) - scale(y) - 60, WIDTH, BIAS);
        }

        /** x * 2^60 / y, both of 53 bits; the lowest bit tells of a rest, too. */
        private static long quotientOf(long x, long y) {
            if (y <= 0) {
                return 0;
            }
            long quotient = x / y;
            long rest = x % y;
            for (int digit = 0; digit < 6; digit++) {
                rest <<= 10;
                quotient = (quotient << 10) + rest / y;
                rest %= y;
            }
            return rest != 0 ? quotient | 1 : quotient;
        }

        static long remainder(long x, long y) {
            if (isLost(x) || isLost(y) || isInfinite(x) || isZero(y)) {
                return LOST;
            }
            if (magnitude(x) < magnitude(y)) {
                return x;
            }
            long rest = restOf(significand(x), significand(y), scale(x) - scale(y));
            return signBit(x) | nearest(rest, scale(y), WIDTH, BIAS);
        }

        /** The rest of x * 2^up by y, both of 53 bits at most. */
        private static long restOf(long x, long y, int up) {
            if (y <= 0) {
                return 0;
            }
            long rest = x % y;
            for (int left = up; left > 0; left -= 10) {
                rest = (rest << Math.min(left, 10)) % y;
            }
            return rest;
        }
    }
}
