/** Promise 9: addStmt. */
public final class P09AddStmtTest {
    private static final int[] ANY = {-1, 0, 16, 99, 1 << 16, Integer.MIN_VALUE, Integer.MAX_VALUE};
    // For each kind from 1 to 13: v is a variable, o a channel, n a constant, and - an unused operand.
    private static final String[] SHAPES = {null, "vn-", "vv-", "vvv", "vvv", "vvv", "vvv", "vvv", "v--",
        "---", "---", "v--", "ov-", "vv-"};

    public static void main(String[] args) {
        Due.test("refused if kind < 1", () -> Wrong.below(1).forEach(P09AddStmtTest::wrongKind));
        Due.test("refused if kind > 13", () -> Wrong.from(14).forEach(P09AddStmtTest::wrongKind));
        Due.test("kinds 1 and 13 are taken, and all between", P09AddStmtTest::everyKind);
        Due.test("refused if the program already holds its capacity", P09AddStmtTest::fullIsRefused);
        Due.test("the capacity itself can be held, whatever it is", P09AddStmtTest::everyCapacity);
        Due.test("refused if a variable operand is < 0", () -> Wrong.below(0).forEach(n -> wrongOperand('v', n)));
        Due.test("refused if a variable operand is >= 16", () -> Wrong.from(16).forEach(n -> wrongOperand('v', n)));
        Due.test("variable operands 0 and 15 are taken, and all between", () -> rightOperands('v', 16));
        Due.test("refused if the channel operand is < 0", () -> Wrong.below(0).forEach(n -> wrongOperand('o', n)));
        Due.test("refused if the channel operand is >= 4", () -> Wrong.from(4).forEach(n -> wrongOperand('o', n)));
        Due.test("channel operands 0 and 3 are taken, and all between", () -> rightOperands('o', 4));
        Due.test("K_SET: b is an int constant, any value allowed", () -> anyOperands('n', true));
        Due.test("unused operands are not tested, and are stored as 0", () -> anyOperands('-', false));
        Due.test("block structure is not examined here", P09AddStmtTest::structureIsNotLookedAt);
        Due.test("stored at index length, length grows by one, RESET happens, the index is answered",
            P09AddStmtTest::storesAndResets);
        Due.test("a refused call leaves the index to the next one", P09AddStmtTest::noIndexIsLost);
        Due.end("P09AddStmtTest");
    }

    private static void wrongKind(int kind) {
        Calls.refused("kind " + kind, -1, x -> x.addStmt(kind, 1, 1, 1));
    }

    private static void everyKind() {
        DecentLabels x = new DecentLabels(2, 64);
        for (int kind = 1; kind <= 13; kind++) {
            Due.is("kind " + kind, x.addStmt(kind, 1, 2, 3), kind - 1);
            Due.is("kind " + kind + ", stored", x.getStmt(kind - 1, 0), kind);
        }
    }

    private static void fullIsRefused() {
        for (int kind = 1; kind <= 13; kind++) {
            DecentLabels x = Stage.RUNNING.make();
            Due.is("ninth of ten", x.addStmt(DecentLabels.K_SET, 0, 0, 0), 8);
            Due.is("tenth of ten", x.addStmt(DecentLabels.K_SET, 0, 0, 0), 9);
            unchangedByFull(x, kind);
            x.check();
            unchangedByFull(x, kind);
            x.start();
            x.run(3);
            unchangedByFull(x, kind);
            x.run(100);
            unchangedByFull(x, kind);
        }
    }

    private static void unchangedByFull(DecentLabels x, int kind) {
        Seen before = Seen.of(x);
        Due.is("kind " + kind + ", full", x.addStmt(kind, 1, 1, 1), -1);
        Due.same("changed by kind " + kind + ", full", before.changedTo(Seen.of(x)), "");
    }

    private static void everyCapacity() {
        for (int capacity = 8; capacity <= 64; capacity++) {
            DecentLabels x = new DecentLabels(2, capacity);
            for (int i = 0; i < capacity; i++) {
                Due.is("statement " + i + " of " + capacity, x.addStmt(DecentLabels.K_SET, 3, i, 0), i);
            }
            Due.is("one too many", x.addStmt(DecentLabels.K_SET, 3, 0, 0), -1);
            Due.is("length", x.getValue(DecentLabels.SLOT_LENGTH), capacity);
            Due.is("the last one is kept", x.getStmt(capacity - 1, 2), capacity - 1);
            Due.is("none behind it", x.getStmt(capacity, 0), -1);
        }
    }

    // The other operands are 2, which fits everywhere.
    private static int add(DecentLabels x, int kind, int operand, int value) {
        return x.addStmt(kind, operand == 0 ? value : 2, operand == 1 ? value : 2, operand == 2 ? value : 2);
    }

    private interface Place {
        void at(int kind, int operand, String name);
    }

    // Every operand of every kind that has this form.
    private static void eachPlace(char form, Place place) {
        for (int kind = 1; kind <= 13; kind++) {
            for (int operand = 0; operand < 3; operand++) {
                if (SHAPES[kind].charAt(operand) == form) {
                    place.at(kind, operand, "kind " + kind + ", operand " + operand + ", ");
                }
            }
        }
    }

    private static void wrongOperand(char form, int value) {
        eachPlace(form, (kind, operand, name) ->
            Calls.refused(name + value, -1, x -> add(x, kind, operand, value)));
    }

    private static void rightOperands(char form, int bound) {
        eachPlace(form, (kind, operand, name) -> {
            DecentLabels x = new DecentLabels(2, 64);
            for (int value = 0; value < bound; value++) {
                Due.is(name + value, add(x, kind, operand, value), value);
                Due.is(name + value + ", stored", x.getStmt(value, operand + 1), value);
            }
        });
    }

    private static void anyOperands(char form, boolean stored) {
        eachPlace(form, (kind, operand, name) -> {
            DecentLabels x = new DecentLabels(2, 8);
            for (int i = 0; i < ANY.length; i++) {
                Due.is(name + ANY[i], add(x, kind, operand, ANY[i]), i);
                Due.is(name + ANY[i] + ", stored", x.getStmt(i, operand + 1), stored ? ANY[i] : 0);
            }
        });
    }

    private static void structureIsNotLookedAt() {
        DecentLabels x = new DecentLabels(2, 64);
        int[] kinds = {DecentLabels.K_END, DecentLabels.K_ELSE, DecentLabels.K_ELSE, DecentLabels.K_WHILE,
            DecentLabels.K_ELSE, DecentLabels.K_IF, DecentLabels.K_ELSE, DecentLabels.K_ELSE};
        for (int i = 0; i < kinds.length; i++) {
            Due.is("badly nested", x.addStmt(kinds[i], 0, 0, 0), i);
        }
        for (int i = 8; i < 64; i++) {
            Due.is("too deep", x.addStmt(DecentLabels.K_IF, 0, 0, 0), i);
        }
    }

    private static void storesAndResets() {
        for (Stage stage : Stage.values()) {
            for (int kind = 1; kind <= 13; kind++) {
                storesAndResets(stage, kind);
            }
        }
    }

    private static void storesAndResets(Stage stage, int kind) {
        DecentLabels x = stage.make();
        int at = stage == Stage.NEW ? 0 : 8;
        int[] operands = {3, 14, 5};
        Seen due = Seen.of(x).reset().with("value 33=" + (at + 1), "stmt " + at + " 0=" + kind);
        for (int operand = 0; operand < 3; operand++) {
            int stored = SHAPES[kind].charAt(operand) == '-' ? 0 : operands[operand];
            due = due.with("stmt " + at + " " + (operand + 1) + "=" + stored);
        }
        String call = "kind " + kind + " when " + stage;
        Due.is(call, x.addStmt(kind, operands[0], operands[1], operands[2]), at);
        Due.same("not as due after " + call, due.changedTo(Seen.of(x)), "");
        Due.is("start() after " + call, x.start(), false);
    }

    private static void noIndexIsLost() {
        DecentLabels x = new DecentLabels(2, 8);
        for (int i = 0; i < 8; i++) {
            Due.is("wrong kind", x.addStmt(14, 0, 0, 0), -1);
            Due.is("wrong variable", x.addStmt(DecentLabels.K_MOVE, 0, 16, 0), -1);
            Due.is("right", x.addStmt(DecentLabels.K_MOVE, 0, 15, 0), i);
        }
    }
}
