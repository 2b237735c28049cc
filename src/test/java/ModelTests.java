import java.util.Random;

/** Random programs, most of them such as go on for long, done by RobotCell and by the Model alike. */
public final class ModelTests {
    private static final int[] NUMBERS = {0, 1, 2, 3, 4, 5, 6, 7, 8, 9, 10, 15, 16, 17, 63, 64, 65, -1, -2, -3, 100, 255,
        256, 32768, 65535, Integer.MAX_VALUE, Integer.MIN_VALUE};
    private static final int[] OTHERS = {-1, 22, 23, 35, 39, 59, 63, 75, 79, 85, 87, 93, 500};

    private final Random random;
    private final RobotCell cell = new RobotCell();
    private final Model model = new Model();
    private final int[] outcomes;
    private final String name;

    private ModelTests(long seed, int[] outcomes) {
        this.random = new Random(seed);
        this.outcomes = outcomes;
        this.name = "seed " + seed;
    }

    public static void main(String[] args) {
        int seeds = args.length > 0 ? Integer.parseInt(args[0]) : 6000;
        int[] outcomes = new int[12];
        for (int seed = 0; seed < seeds && Check.wrongs() < 20; seed++) {
            new ModelTests(seed, outcomes).life();
        }
        // Were one of these never met, the programs would no longer try what they are there for.
        for (int outcome = 0; outcome <= 10; outcome++) {
            System.out.print(outcomes[outcome] + (outcome < 10 ? " " : " runs ended 0 .. 10\n"));
            Check.that("outcome " + outcome + " is met", outcomes[outcome] > 0 || args.length > 0);
        }
        Check.end();
    }

    private int any(int below) {
        return random.nextInt(below);
    }

    private void life() {
        int programs = 1 + any(4);
        if (any(4) != 0) {
            equip();
        }
        for (int i = 0; i < programs; i++) {
            if (any(8) == 0) {
                cell.reset();
                model.reset();
            } else {
                cell.clear();
                model.clear();
            }
            program();
            numbers();
            go();
            if (any(4) == 0) {
                go();
            }
        }
    }

    /** One thing of each kind in its slot, and small numbers: else most orders would end with NONE. */
    private void equip() {
        for (int r = 0; r < 16; r++) {
            order(1, r, 0, any(7));
            boolean lost = any(8) == 0;
            order(24, r, lost ? 0 : any(2000) - 1000, lost ? 0 : any(60) - 2);
        }
        for (int kind = 0; kind < 10; kind++) {
            order(40, kind, any(16), kind);
        }
        order(41, 10, any(16), any(16));
        order(80, 11, 0, 0);
        order(80, 12, 0, 1);
        for (int which = 0; which < 3; which++) {
            order(88, 13 + which, 0, which + (which == 0 ? 0 : any(2)));
        }
        order(88, any(2) == 0 ? 0 : 15, 0, 3);
        go();
    }

    private void go() {
        int fuel = any(5) == 0 ? any(60) : any(9) == 0 ? 20000 : 50 + any(1500);
        int want = model.run(fuel);
        Check.same(name + " run", cell.run(fuel), want);
        outcomes[want]++;
        look();
    }

    private void look() {
        for (int what = -1; what < 3; what++) {
            Check.same(name + " fault " + what, cell.fault(what), model.fault(what));
        }
        Check.same(name + " logs", cell.logs(), model.logs());
        for (int i = -1; i < 202; i++) {
            if (cell.logged(i) != model.logged(i)) {
                Check.same(name + " logged " + i, cell.logged(i), model.logged(i));
            }
        }
        for (int r = 0; r < 16; r++) {
            Check.same(name + " told " + r, cell.told(r), model.told(r));
            Check.same(name + " bits " + r, cell.bits(r), model.bits(r));
            for (int what = 0; what < 4; what++) {
                Check.same(name + " slot " + r + " " + what, cell.slot(r, what), model.slot(r, what));
            }
            for (int i = -1; i <= Math.max(0, model.slot(r, 1)); i++) {
                if (placeOfCell(r, i) != placeOfModel(r, i)) {
                    Check.same(name + " place " + r + " " + i, placeOfCell(r, i), placeOfModel(r, i));
                }
            }
        }
    }

    private long placeOfCell(int r, int i) {
        try {
            return cell.place(r, i);
        } catch (IllegalStateException e) {
            return 0x5555555555555551L;
        } catch (IndexOutOfBoundsException e) {
            return 0x5555555555555552L;
        }
    }

    private long placeOfModel(int r, int i) {
        try {
            return model.place(r, i);
        } catch (IllegalStateException e) {
            return 0x5555555555555551L;
        } catch (IndexOutOfBoundsException e) {
            return 0x5555555555555552L;
        }
    }

    private void numbers() {
        for (int i = any(6); i > 0; i--) {
            int r = any(40) - 12;
            int high = any(3) == 0 ? random.nextInt() : 0;
            int low = any(2) == 0 ? NUMBERS[any(NUMBERS.length)] : random.nextInt();
            cell.number(r, high, low);
            model.number(r, high, low);
        }
    }

    private void order(int operation, int a, int b, int c) {
        Check.same(name + " order", cell.order(operation, a, b, c), model.order(operation, a, b, c));
    }

    /** A main block of TRYs and SCOPEs, then the blocks they name, then some orders without an END. */
    private void program() {
        int blocks = 1 + any(8);
        int length = 2 + any(12);
        boolean safe = any(3) != 0;
        int head = safe ? 2 * blocks + 1 : 0;
        for (int i = 0; i < blocks && safe; i++) {
            int to = head + i * (length + 1);
            if (any(4) == 0) {
                order(17, register(), to, head + any(blocks) * (length + 1));
            } else {
                order(16, register(), to, any(4) == 0 ? any(12) - 1 : 0);
            }
            order(20, register(), 0, 0);
        }
        if (safe) {
            order(0, 0, 0, 0);
        }
        for (int i = 0; i < blocks; i++) {
            for (int k = 0; k < length; k++) {
                anyOrder(head + blocks * (length + 1));
            }
            order(any(9) == 0 ? 20 : 0, register(), 0, 0);
        }
    }

    private int register() {
        return any(10) == 0 ? random.nextInt() : any(16);
    }

    /** Slot k holds kind k mostly, so that not all orders fail. */
    private int slotFor(int kind) {
        return any(8) == 0 ? register() : kind & 15;
    }

    private void anyOrder(int size) {
        switch (any(12)) {
            case 0:
                order(1, register(), any(6) == 0 ? random.nextInt() : 0, NUMBERS[any(NUMBERS.length)]);
                break;
            case 1:
                order(1 + any(12), register(), register(), register());
                break;
            case 2:
                flow(size);
                break;
            case 3:
            case 4:
                order(24 + any(11), register(), any(3) == 0 ? random.nextInt() : register(), any(128));
                break;
            case 5:
                order(24, register(), NUMBERS[any(NUMBERS.length)], NUMBERS[any(NUMBERS.length)]);
                break;
            case 6:
                makes();
                break;
            case 7:
                rows();
                break;
            case 8:
            case 9:
                places();
                break;
            case 10:
                poses();
                break;
            default:
                devices();
                break;
        }
    }

    private void flow(int size) {
        int to = any(size + 4) - 2;
        switch (any(9)) {
            case 0:
                order(13, register(), any(4), 0);
                break;
            case 1:
                order(14, register(), to, 0);
                break;
            case 2:
                order(15, register(), to, 0);
                break;
            case 3:
                order(16, register(), to, any(3) == 0 ? any(10) : 0);
                break;
            case 4:
                order(17, register(), to, any(size + 4) - 2);
                break;
            case 5:
                order(18 + any(2), register(), 0, 0);
                break;
            case 6:
                order(any(5) == 0 ? OTHERS[any(OTHERS.length)] : 20, register(), 0, 0);
                break;
            default:
                order(20 + any(2), register(), 0, 0);
                break;
        }
    }

    private void makes() {
        int kind = any(17);
        if (kind < 10) {
            order(40, slotFor(kind), register(), any(20) == 0 ? any(20) - 5 : kind);
        } else if (kind == 10) {
            order(41, slotFor(10), register(), register());
        } else if (kind < 13) {
            order(80, slotFor(kind), register(), kind - 11 + 2 * any(5) - 4);
        } else {
            order(88, slotFor(kind), register(), kind - 13 + 4 * any(3));
        }
    }

    private void rows() {
        int kind = any(11);
        switch (any(6)) {
            case 0:
                order(42, register(), slotFor(kind), 0);
                break;
            case 1:
            case 2:
                int other = kind < 8 ? kind : 8 + any(3);
                order(43, slotFor(kind), slotFor(other), register());
                break;
            case 3:
                order(44, slotFor(4), slotFor(4), 0);
                break;
            case 4:
                order(45, register(), register(), 0);
                break;
            default:
                order(46 + any(2), register(), register(), 0);
                break;
        }
    }

    private void places() {
        int kind = any(11);
        int row = kind == 8 && any(3) == 0 ? slotFor(9) : slotFor(kind);
        int part = kind == 10 ? slotFor(4) : kind >= 8 ? slotFor(11 + any(2)) : register();
        order((any(2) == 0 ? 48 : 64) + kind, part, row, register());
    }

    private void poses() {
        switch (any(5)) {
            case 0:
                order(83, slotFor(11 + any(2)), register(), register());
                break;
            case 1:
                order(84, register(), slotFor(11 + any(2)), slotFor(11 + any(2)));
                break;
            default:
                int part = any(8);
                int a = part == 4 ? slotFor(11 + any(2)) : register();
                order(81 + any(2), a, slotFor(11 + any(2)), part + 8 * any(2));
                break;
        }
    }

    private void devices() {
        int kind = 13 + any(4);
        switch (any(6)) {
            case 0:
            case 1:
                order(89, register(), slotFor(kind), register());
                break;
            case 2:
            case 3:
                order(90, register(), slotFor(kind), any(8));
                break;
            case 4:
                order(91, slotFor(kind), 0, 0);
                break;
            default:
                order(92, slotFor(16), register(), 0);
                break;
        }
    }
}
