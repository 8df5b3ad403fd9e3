/** Long runs of calls on the class and on the model: every answer must agree. */
public final class ModelTest {
    private static final int RUNS = 1500;
    private static final int CALLS = 160;

    private long seed;
    private final DecentLabels x;
    private final Model m;
    private final String name;
    private final int principals;
    // How often a check answered each error kind (0 where it passed), and how often a run halted.
    private static final int[] verdicts = new int[6];
    private static int halts = 0;

    private ModelTest(int run) {
        seed = run * 7919L + 17;
        principals = draw(11) - 1;
        int capacity = 4 + draw(64);
        x = new DecentLabels(principals, capacity);
        m = new Model(principals, capacity);
        name = "run " + run + ", new(" + principals + ", " + capacity + "), ";
    }

    public static void main(String[] args) {
        Due.test("the class and the model agree", ModelTest::longRuns);
        Due.test("every verdict comes up often", () -> {
            for (int kind = 0; kind < verdicts.length; kind++) {
                Due.is("verdict " + kind + ", " + verdicts[kind] + " times", verdicts[kind] >= 100, true);
            }
        });
        Due.test("programs halt often", () -> Due.is(halts + " times", halts >= 100, true));
        Due.end("ModelTest");
    }

    private static void longRuns() {
        for (int run = 0; run < RUNS; run++) {
            ModelTest test = new ModelTest(run);
            for (int call = 0; call < CALLS; call++) {
                test.act();
            }
            test.compareAll();
        }
    }

    // A fixed rule, so that the same calls are made every time.
    private int draw(int bound) {
        seed = seed * 6364136223846793005L + 1442695040888963407L;
        return (int) ((seed >>> 33) % bound);
    }

    // Mostly in [0,bound), sometimes beyond an edge.
    private int near(int bound) {
        int[] beyond = {-1, bound, bound + 1, -2, Integer.MIN_VALUE, Integer.MAX_VALUE};
        return draw(30) == 0 ? beyond[draw(beyond.length)] : draw(bound);
    }

    private int principal() {
        return near(Math.max(2, Math.min(8, principals)));
    }

    private int mask() {
        return near(1 << Math.max(2, Math.min(8, principals)));
    }

    private int number() {
        int[] numbers = {0, 1, -1, 2, 3, 1 << 20, Integer.MIN_VALUE, Integer.MAX_VALUE};
        return numbers[draw(numbers.length)];
    }

    // Few variables, so that statements meet each other's labels and values.
    private int variable() {
        int v = near(16);
        return v >= 0 && v < 16 && draw(4) != 0 ? v % 5 : v;
    }

    private void act() {
        switch (draw(16)) {
            case 0 -> hierarchy();
            case 1 -> label();
            case 2 -> authority();
            case 3 -> anyStatement();
            case 4 -> balancedProgram();
            case 5 -> input();
            case 6, 7 -> checkAndStart();
            case 8, 9 -> run();
            case 10 -> clear();
            case 11 -> start();
            default -> look();
        }
        for (int slot = DecentLabels.SLOT_AUTHORITY; slot <= DecentLabels.SLOT_CHECK; slot++) {
            Due.is(name + "getValue(" + slot + ")", x.getValue(slot), m.getValue(slot));
        }
    }

    private void hierarchy() {
        int a = principal();
        int b = principal();
        boolean on = draw(2) == 0;
        Due.is(name + "setActsFor(" + a + ", " + b + ", " + on + ")", x.setActsFor(a, b, on), m.setActsFor(a, b, on));
    }

    private void label() {
        int target = draw(2) == 0 ? draw(5) : near(20);
        int owner = principal();
        int readers = draw(3) == 0 ? -1 : mask();
        Due.is(name + "setPolicy(" + target + ", " + owner + ", " + readers + ")",
            x.setPolicy(target, owner, readers), m.setPolicy(target, owner, readers));
    }

    private void authority() {
        int mask = mask();
        Due.is(name + "setAuthority(" + mask + ")", x.setAuthority(mask), m.setAuthority(mask));
    }

    private void add(int kind, int a, int b, int c) {
        Due.is(name + "addStmt(" + kind + ", " + a + ", " + b + ", " + c + ")",
            x.addStmt(kind, a, b, c), m.addStmt(kind, a, b, c));
    }

    private void anyStatement() {
        int kind = 1 + near(13);
        add(kind, kind == 12 ? near(4) : variable(), kind == 1 ? number() : variable(), variable());
    }

    private void balancedProgram() {
        clear();
        int size = 1 + draw(30);
        int open = 0;
        for (int i = 0; i < size; i++) {
            int choice = draw(12);
            if (choice < 2) {
                add(choice == 0 ? 8 : 11, variable(), 0, 0);
                open++;
            } else if (choice < 5 && open > 0) {
                add(10, 0, 0, 0);
                open--;
            } else if (choice == 5 && open > 0) {
                add(9, 0, 0, 0);
            } else {
                int kind = draw(8);
                int[] kinds = {1, 1, 2, 3 + draw(5), 3 + draw(5), 12, 12, 13};
                add(kinds[kind], kinds[kind] == 12 ? draw(4) : variable(),
                    kinds[kind] == 1 ? number() : variable(), variable());
            }
        }
        for (int i = 0; i < open - (draw(8) == 0 ? 1 : 0); i++) {
            add(10, 0, 0, 0);
        }
    }

    private void input() {
        int v = variable();
        int value = number();
        Due.is(name + "setInput(" + v + ", " + value + ")", x.setInput(v, value), m.setInput(v, value));
    }

    private void checkAndStart() {
        if (draw(3) == 0) {
            nestDeeply();
        }
        int due = m.check();
        Due.is(name + "check()", x.check(), due);
        verdicts[due / 256]++;
        start();
        run();
    }

    private void nestDeeply() {
        if (draw(3) != 0) {
            return;
        }
        clear();
        int depth = 7 + draw(3);
        for (int i = 0; i < 2 * depth; i++) {
            add(i < depth ? draw(2) == 0 ? 8 : 11 : 10, variable(), 0, 0);
        }
    }

    private void run() {
        int steps = draw(5) == 0 ? number() : draw(20);
        int due = m.run(steps);
        Due.is(name + "run(" + steps + ")", x.run(steps), due);
        halts += due == DecentLabels.ST_HALTED ? 1 : 0;
        for (int v = 0; v < 5; v++) {
            Due.is(name + "getValue(" + v + ")", x.getValue(v), m.getValue(v));
        }
    }

    private void start() {
        Due.is(name + "start()", x.start(), m.start());
    }

    private void clear() {
        x.clearProgram();
        m.clearProgram();
    }

    private void look() {
        int p = principal();
        int q = principal();
        int target = near(20);
        int slot = near(37);
        int channel = near(4);
        int i = near(16);
        int index = near(64);
        int field = near(4);
        Due.is(name + "actsFor(" + p + ", " + q + ")", x.actsFor(p, q), m.actsFor(p, q));
        Due.is(name + "canRead(" + p + ", " + target + ")", x.canRead(p, target), m.canRead(p, target));
        Due.is(name + "getPolicy(" + target + ", " + p + ")", x.getPolicy(target, p), m.getPolicy(target, p));
        Due.is(name + "getValue(" + slot + ")", x.getValue(slot), m.getValue(slot));
        Due.is(name + "outCount(" + channel + ")", x.outCount(channel), m.outCount(channel));
        Due.is(name + "outValue(" + channel + ", " + i + ")", x.outValue(channel, i), m.outValue(channel, i));
        Due.is(name + "getStmt(" + index + ", " + field + ")", x.getStmt(index, field), m.getStmt(index, field));
    }

    private void compareAll() {
        for (int p = 0; p < 8; p++) {
            for (int q = 0; q < 8; q++) {
                Due.is(name + "actsFor(" + p + ", " + q + ")", x.actsFor(p, q), m.actsFor(p, q));
            }
            for (int target = 0; target < 20; target++) {
                Due.is(name + "getPolicy(" + target + ", " + p + ")", x.getPolicy(target, p), m.getPolicy(target, p));
                Due.is(name + "canRead(" + p + ", " + target + ")", x.canRead(p, target), m.canRead(p, target));
            }
        }
        for (int slot = 0; slot < 37; slot++) {
            Due.is(name + "getValue(" + slot + ")", x.getValue(slot), m.getValue(slot));
        }
        for (int i = 0; i < 64 * 4; i++) {
            Due.is(name + "getStmt(" + i / 4 + ", " + i % 4 + ")", x.getStmt(i / 4, i % 4), m.getStmt(i / 4, i % 4));
        }
        for (int i = 0; i < 4 * 16; i++) {
            Due.is(name + "outCount(" + i / 16 + ")", x.outCount(i / 16), m.outCount(i / 16));
            Due.is(name + "outValue(" + i / 16 + ", " + i % 16 + ")",
                x.outValue(i / 16, i % 16), m.outValue(i / 16, i % 16));
        }
    }
}
