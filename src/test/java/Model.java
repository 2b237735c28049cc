import java.util.ArrayList;
import java.util.List;

/**
 * The document once more, with what Java itself has: its arrays, its doubles, and exceptions for faults.
 * It shares no code with RobotCell, so that a slip in one shows up against the other.
 */
final class Model {
    private static final class Fault extends RuntimeException {
        private static final long serialVersionUID = 1L;
        final int kind;
        int order = -1;

        Fault(int kind) {
            super(null, null, false, false);
            this.kind = kind;
        }
    }

    private static final class Stop extends RuntimeException {
        private static final long serialVersionUID = 1L;

        Stop() {
            super(null, null, false, false);
        }
    }

    static class Pose {
        double x;
        double y;
        double angle;
        int mark;
        Pose after;
    }

    static final class Grasp extends Pose {
        double force;
    }

    abstract static class Device {
        abstract double[] tell();

        abstract long go(double x);
    }

    static class Axis extends Device {
        double at;
        double travelled;
        double moves;

        @Override
        double[] tell() {
            return new double[] {at, span(), rank(), travelled, moves, speed(), 0, 0};
        }

        double span() {
            return 100;
        }

        double rank() {
            return 3;
        }

        double speed() {
            return 10;
        }

        @Override
        long go(double x) {
            if (Double.isNaN(x)) {
                throw new Fault(7);
            }
            if (Math.abs(x) > span()) {
                throw new Fault(8);
            }
            double d = Math.abs(x - at);
            double s = speed();
            double t = d >= s / 2 ? d / s + 0.5 : 2 * Math.sqrt(d / (2 * s));
            at = x;
            travelled += d;
            moves++;
            return (long) Math.ceil(10 * t);
        }

        void rest() {
            at = 0;
        }
    }

    static class Rail extends Axis {
        @Override
        double span() {
            return 10 * super.span();
        }

        @Override
        double rank() {
            return super.rank() + 1;
        }

        @Override
        double speed() {
            return 40;
        }

        @Override
        long go(double x) {
            return super.go(Math.rint(8 * x) / 8);
        }

        @Override
        void rest() {
            super.rest();
            moves++;
        }
    }

    static final class Wrist extends Rail {
        @Override
        double span() {
            return 360;
        }

        @Override
        double rank() {
            return 2 * super.rank();
        }

        @Override
        long go(double x) {
            return super.go(x - 360 * Math.floor(x / 360));
        }

        @Override
        void rest() {
            at = 0;
            travelled = 0;
        }
    }

    static final class Probe extends Device {
        final List<Float> readings = new ArrayList<>();

        @Override
        double[] tell() {
            double sum = 0;
            int n = 0;
            float greatest = Float.NEGATIVE_INFINITY;
            float least = Float.POSITIVE_INFINITY;
            for (int i = Math.max(0, readings.size() - 5); i < readings.size(); i++) {
                float f = readings.get(i);
                if (f == f) {
                    sum += f;
                    n++;
                    greatest = Math.max(greatest, f);
                    least = Math.min(least, f);
                }
            }
            double mean = n == 0 ? Double.NaN : sum / n;
            double range = n == 0 ? 0 : (double) greatest - (double) least;
            return new double[] {mean, 1, 1, range, readings.size(), 0, 0, 0};
        }

        @Override
        long go(double x) {
            throw new Fault(Double.isNaN(x) ? 7 : 8);
        }
    }

    private final List<int[]> program = new ArrayList<>();
    private long[] n = new long[16];
    private double[] m = new double[16];
    private Object[] p = new Object[16];
    private final List<Long> log = new ArrayList<>();
    private int things = 0;
    private int faults = 0;
    private int fuel = 0;
    private int done = -1;
    private int last = -1;
    private Fault kept = null;

    int order(int operation, int a, int b, int c) {
        if (program.size() == 400) {
            return -1;
        }
        program.add(new int[] {operation, a, b, c});
        return program.size();
    }

    void clear() {
        program.clear();
    }

    void number(int r, int high, int low) {
        n[r & 15] = high * 4294967296L + Integer.toUnsignedLong(low);
    }

    int run(int given) {
        if (given < 0 || given > 20000) {
            return -1;
        }
        fuel = given;
        done = 0;
        last = -1;
        kept = null;
        try {
            block(0, 1);
            return 0;
        } catch (Fault f) {
            last = f.order;
            return f.kind;
        } catch (Stop s) {
            return 10;
        }
    }

    int fault(int what) {
        return what == 0 ? last : what == 1 ? done : -1;
    }

    long told(int r) {
        return n[r & 15];
    }

    long bits(int r) {
        return Double.doubleToLongBits(m[r & 15]);
    }

    int slot(int r, int what) {
        Object o = p[r & 15];
        if (o == null) {
            return -1;
        }
        switch (what) {
            case 0:
                return kind(o);
            case 1:
                return o.getClass().isArray() ? java.lang.reflect.Array.getLength(o) : -1;
            case 2:
                for (int i = 0; i < 16; i++) {
                    if (p[i] == o) {
                        return i;
                    }
                }
                return -1;
            default:
                return -1;
        }
    }

    long place(int r, int i) {
        Object o = p[r & 15];
        if (o == null || !o.getClass().isArray()) {
            throw new IllegalStateException();
        }
        if (i < 0 || i >= java.lang.reflect.Array.getLength(o)) {
            throw new IndexOutOfBoundsException();
        }
        Object e = java.lang.reflect.Array.get(o, i);
        if (e == null) {
            return -1;
        }
        if (e instanceof Boolean) {
            return (Boolean) e ? 1 : 0;
        }
        if (e instanceof Character) {
            return (Character) e;
        }
        if (e instanceof Float) {
            return Float.floatToIntBits((Float) e);
        }
        if (e instanceof Double) {
            return Double.doubleToLongBits((Double) e);
        }
        if (e instanceof Number) {
            return ((Number) e).longValue();
        }
        return e instanceof Pose ? ((Pose) e).mark : ((int[]) e).length;
    }

    long logged(int i) {
        return i >= 0 && i < log.size() && i < 200 ? log.get(i) : 0;
    }

    int logs() {
        return log.size();
    }

    void reset() {
        program.clear();
        n = new long[16];
        m = new double[16];
        p = new Object[16];
        log.clear();
        done = -1;
        last = -1;
    }

    private static int kind(Object o) {
        Class<?>[] kinds = {boolean[].class, char[].class, byte[].class, short[].class, int[].class, long[].class,
            float[].class, double[].class, Pose[].class, Grasp[].class, int[][].class, Pose.class, Grasp.class,
            Axis.class, Rail.class, Wrist.class, Probe.class};
        for (int i = 0; i < kinds.length; i++) {
            if (o.getClass() == kinds[i]) {
                return i;
            }
        }
        throw new AssertionError();
    }

    private void burn() {
        if (fuel == 0) {
            throw new Stop();
        }
        fuel--;
    }

    private Fault comes(Fault f, int at) {
        if (faults == 2000) {
            throw new Stop();
        }
        faults++;
        f.order = at;
        return f;
    }

    private void block(int from, int depth) {
        int at = from;
        while (at >= 0 && at < program.size()) {
            int[] o = program.get(at);
            burn();
            done++;
            if (o[0] == 0) {
                return;
            }
            int next = at + 1;
            if (o[0] == 13) {
                next += n[o[1] & 15] != 0 ? o[2] & 255 : 0;
            } else if (o[0] >= 14 && o[0] <= 17) {
                inner(o, at, depth + 1);
            } else if (o[0] == 19 && kept != null) {
                throw kept;
            } else {
                try {
                    act(o[0], o[1], o[2], o[3]);
                } catch (Fault f) {
                    throw comes(f, at);
                }
            }
            at = next;
        }
    }

    private void guard(int at, int depth) {
        if (depth > 40) {
            throw comes(new Fault(9), at);
        }
    }

    private void inner(int[] o, int at, int depth) {
        switch (o[0]) {
            case 14:
                guard(at, depth);
                block(o[2], depth);
                break;
            case 15:
                long times = n[o[1] & 15];
                for (long i = 0; i < times; i++) {
                    burn();
                    guard(at, depth);
                    block(o[2], depth);
                }
                break;
            case 16:
                guard(at, depth);
                try {
                    block(o[2], depth);
                } catch (Fault f) {
                    if (o[3] != 0 && o[3] != f.kind) {
                        throw f;
                    }
                    n[o[1] & 15] = f.kind;
                    kept = f;
                }
                break;
            default:
                guard(at, depth);
                try {
                    block(o[2], depth);
                } catch (Fault f) {
                    block(o[3], depth);
                    throw f;
                }
                block(o[3], depth);
                break;
        }
    }

    private Object make(int more, java.util.function.Supplier<Object> maker) {
        if (things + more > 4000) {
            throw new Fault(8);
        }
        things += more;
        return maker.get();
    }

    private void act(int op, int ra, int rb, int rc) {
        int a = ra & 15;
        int b = rb & 15;
        int c = rc & 15;
        try {
            if (op >= 1 && op <= 21) {
                numbers(op, a, rb, rc);
            } else if (op >= 24 && op <= 34) {
                measures(op, a, rb, rc);
            } else if (op >= 40 && op <= 47) {
                things(op, a, b, rc);
            } else if (op >= 48 && op <= 58) {
                load(op - 48, a, p[b], (int) n[c]);
            } else if (op >= 64 && op <= 74) {
                store(op - 64, a, p[b], (int) n[c]);
            } else if (op >= 80 && op <= 84) {
                poses(op, a, b, rc);
            } else if (op >= 88 && op <= 92) {
                devices(op, a, b, rc);
            } else {
                throw new Fault(2);
            }
        } catch (NullPointerException e) {
            throw new Fault(1);
        } catch (ClassCastException e) {
            throw new Fault(2);
        } catch (ArrayStoreException e) {
            throw new Fault(5);
        } catch (IndexOutOfBoundsException e) {
            throw new Fault(3);
        } catch (NegativeArraySizeException e) {
            throw new Fault(4);
        } catch (ArithmeticException e) {
            throw new Fault(6);
        }
    }

    private void numbers(int op, int a, int rb, int rc) {
        long x = n[rb & 15];
        long y = n[rc & 15];
        switch (op) {
            case 1: n[a] = rb * 4294967296L + Integer.toUnsignedLong(rc); break;
            case 2: n[a] = x + y; break;
            case 3: n[a] = x - y; break;
            case 4: n[a] = x * y; break;
            case 5: n[a] = x / y; break;
            case 6: n[a] = x % y; break;
            case 7: n[a] = x & y; break;
            case 8: n[a] = x ^ y; break;
            case 9: n[a] = x << y; break;
            case 10: n[a] = x >> y; break;
            case 11: n[a] = x < y ? 1 : 0; break;
            case 12: n[a] = x == y ? 1 : 0; break;
            case 18: throw new Fault(n[a] >= 1 && n[a] <= 9 ? (int) n[a] : 2);
            case 19: throw new Fault(1);
            case 20: log.add(n[a]); break;
            case 21: log.add(Double.doubleToLongBits(m[a])); break;
            default: throw new AssertionError();
        }
    }

    private void measures(int op, int a, int rb, int rc) {
        double x = m[rb & 15];
        double y = m[rc & 15];
        int three = (rc & 112) / 16;
        switch (op) {
            case 24: m[a] = (double) rb / (double) rc; break;
            case 25: m[a] = x + y; break;
            case 26: m[a] = x - y; break;
            case 27: m[a] = x * y; break;
            case 28: m[a] = x / y; break;
            case 29: m[a] = x % y; break;
            case 30: m[a] = one(x, rc & 15); break;
            case 31: m[a] = two(m[a], x, y, three, n[rc & 15]); break;
            case 32:
                boolean[] tests = {x < y, x <= y, x > y, x >= y, x == y, x != y, x != y, x != y};
                n[a] = tests[three] ? 1 : 0;
                break;
            case 33: n[a] = whole(x, rc & 7); break;
            default:
                long k = n[rb & 15];
                double[] made = {(double) k, Double.longBitsToDouble(k), Float.intBitsToFloat((int) k), (float) k};
                m[a] = made[rc & 3];
                break;
        }
    }

    private static double one(double x, int which) {
        double[] all = {Math.abs(x), Math.floor(x), Math.ceil(x), Math.rint(x), Math.signum(x), Math.sqrt(x),
            Math.ulp(x), Math.nextUp(x), Math.nextDown(x), -x, Math.getExponent(x), (float) x, x, x, x, x};
        return all[which];
    }

    private static double two(double a, double x, double y, int which, long k) {
        double half = Double.isNaN(x) ? y : Double.isNaN(y) ? x : (x + y) / 2;
        double[] all = {Math.max(x, y), Math.min(x, y), StrictMath.copySign(x, Double.isNaN(y) ? 1 : y), x * y + a,
            Double.compare(x, y), Math.scalb(x, (int) Math.max(-3000, Math.min(3000, k))), half, x};
        return all[which];
    }

    private static long whole(double x, int which) {
        if (which <= 2 && Double.isNaN(x)) {
            throw new Fault(7);
        }
        long[] all = {(long) x, (int) x, Math.round(x), Double.doubleToLongBits(x), Float.floatToIntBits((float) x),
            Double.isNaN(x) ? 1 : 0, 0, 0};
        return all[which];
    }

    private static void limit(long size, int most) {
        if (size > most) {
            throw new Fault(8);
        }
        if (size < 0) {
            throw new NegativeArraySizeException();
        }
    }

    private void things(int op, int a, int b, int rc) {
        switch (op) {
            case 40:
                if (rc < 0 || rc > 9) {
                    throw new ClassCastException();
                }
                limit(n[b], 64);
                Class<?>[] types = {boolean.class, char.class, byte.class, short.class, int.class, long.class,
                    float.class, double.class, Pose.class, Grasp.class};
                p[a] = make(1, () -> java.lang.reflect.Array.newInstance(types[rc], (int) n[b]));
                break;
            case 41:
                if (n[b] < 0 || n[rc & 15] < 0) {
                    throw new NegativeArraySizeException();
                }
                limit(n[b], 16);
                limit(n[rc & 15], 16);
                p[a] = make(1 + (int) n[b], () -> new int[(int) n[b]][(int) n[rc & 15]]);
                break;
            case 42:
                if (p[b] != null && !p[b].getClass().isArray()) {
                    throw new ClassCastException();
                }
                n[a] = java.lang.reflect.Array.getLength(p[b]);
                break;
            case 43:
                System.arraycopy(p[a], (int) n[rc & 15], p[b], (int) n[rc + 1 & 15], (int) n[rc + 2 & 15]);
                break;
            case 44:
                int[] ints = (int[]) p[b];
                int[] twin = ints.clone();
                p[a] = make(1, () -> twin);
                break;
            case 45: n[a] = p[b] == null ? -1 : kind(p[b]); break;
            case 46: p[a] = p[b]; break;
            default: p[a] = null; break;
        }
    }

    private void load(int k, int a, Object row, int i) {
        switch (k) {
            case 0: n[a] = ((boolean[]) row)[i] ? 1 : 0; break;
            case 1: n[a] = ((char[]) row)[i]; break;
            case 2: n[a] = ((byte[]) row)[i]; break;
            case 3: n[a] = ((short[]) row)[i]; break;
            case 4: n[a] = ((int[]) row)[i]; break;
            case 5: n[a] = ((long[]) row)[i]; break;
            case 6: m[a] = ((float[]) row)[i]; break;
            case 7: m[a] = ((double[]) row)[i]; break;
            case 8: p[a] = ((Pose[]) row)[i]; break;
            case 9: p[a] = ((Grasp[]) row)[i]; break;
            default: p[a] = ((int[][]) row)[i]; break;
        }
    }

    private void store(int k, int a, Object row, int i) {
        switch (k) {
            case 0: ((boolean[]) row)[i] = n[a] != 0; break;
            case 1: ((char[]) row)[i] = (char) n[a]; break;
            case 2: ((byte[]) row)[i] = (byte) n[a]; break;
            case 3: ((short[]) row)[i] = (short) n[a]; break;
            case 4: ((int[]) row)[i] = (int) n[a]; break;
            case 5: ((long[]) row)[i] = n[a]; break;
            case 6: ((float[]) row)[i] = (float) m[a]; break;
            case 7: ((double[]) row)[i] = m[a]; break;
            case 8:
                Pose pose = (Pose) p[a];
                ((Pose[]) row)[i] = pose;
                break;
            case 9:
                Grasp grasp = (Grasp) p[a];
                ((Grasp[]) row)[i] = grasp;
                break;
            default:
                int[] ints = (int[]) p[a];
                ((int[][]) row)[i] = ints;
                break;
        }
    }

    private void poses(int op, int a, int b, int rc) {
        switch (op) {
            case 80:
                p[a] = make(1, () -> rc % 2 != 0 ? new Grasp() : new Pose());
                break;
            case 81:
                read(a, (Pose) p[b], rc & 7);
                break;
            case 82:
                Pose after = (rc & 7) == 4 ? (Pose) p[a] : null;
                write(a, (Pose) p[b], after, rc & 7);
                break;
            case 83:
                Pose shifted = (Pose) p[a];
                shifted.x += m[b];
                shifted.y += m[rc & 15];
                break;
            default:
                Pose one = (Pose) p[b];
                Pose other = (Pose) p[rc & 15];
                double dx = one.x - other.x;
                double dy = one.y - other.y;
                m[a] = Math.sqrt(dx * dx + dy * dy);
                break;
        }
    }

    private void read(int a, Pose q, int part) {
        switch (part) {
            case 0: m[a] = q.x; break;
            case 1: m[a] = q.y; break;
            case 2: m[a] = q.angle; break;
            case 3: n[a] = q.mark; break;
            case 4: p[a] = q.after; break;
            case 5: m[a] = ((Grasp) q).force; break;
            case 6:
                int count = 1;
                Pose at = q.after;
                while (at != null && count < 100) {
                    count++;
                    at = at.after;
                }
                n[a] = count;
                break;
            default:
                q.mark += 0;
                break;
        }
    }

    private void write(int a, Pose q, Pose after, int part) {
        switch (part) {
            case 0: q.x = m[a]; break;
            case 1: q.y = m[a]; break;
            case 2: q.angle = m[a]; break;
            case 3: q.mark = (int) n[a]; break;
            case 4: q.after = after; break;
            case 5: ((Grasp) q).force = m[a]; break;
            default: q.mark += 0; break;
        }
    }

    private void devices(int op, int a, int b, int rc) {
        switch (op) {
            case 88:
                p[a] = make(1, () -> {
                    Object[] all = {new Axis(), new Rail(), new Wrist(), new Probe()};
                    return all[rc & 3];
                });
                break;
            case 89: n[a] = ((Device) p[b]).go(m[rc & 15]); break;
            case 90: m[a] = ((Device) p[b]).tell()[rc & 7]; break;
            case 91: ((Axis) p[a]).rest(); break;
            default: ((Probe) p[a]).readings.add((float) m[b]); break;
        }
    }
}
