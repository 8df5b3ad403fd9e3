/** Promise 11: getStmt. */
public final class P11GetStmtTest {
    public static void main(String[] args) {
        Due.test("-1 if index < 0", () -> Wrong.below(0).forEach(P11GetStmtTest::wrongIndex));
        Due.test("-1 if index >= length", () -> Wrong.from(8).forEach(P11GetStmtTest::wrongIndex));
        Due.test("-1 if field < 0", () -> Wrong.below(0).forEach(P11GetStmtTest::wrongField));
        Due.test("-1 if field > 3", () -> Wrong.from(4).forEach(P11GetStmtTest::wrongField));
        Due.test("-1 if both are wrong", P11GetStmtTest::bothOutside);
        Due.test("-1 for every index of an empty program", P11GetStmtTest::emptyProgram);
        Due.test("the last index of a full program, and the one after it", P11GetStmtTest::fullProgram);
        Due.test("-1 for an index that addStmt refused or clearProgram took", P11GetStmtTest::followsTheLength);
        Due.test("field 0: its kind; field 1: a; field 2: b; field 3: c", P11GetStmtTest::fields);
        Due.test("unused operands read as 0", P11GetStmtTest::unusedReadAsZero);
        Due.test("a stored SET constant may itself be -1", P11GetStmtTest::constants);
        Due.test("it changes nothing", P11GetStmtTest::changesNothing);
        Due.end("P11GetStmtTest");
    }

    private static void outside(int index, int field) {
        Calls.refused("getStmt(" + index + ", " + field + ")", -1, x -> x.getStmt(index, field));
    }

    private static void wrongIndex(int index) {
        for (int field = 0; field < 4; field++) {
            outside(index, field);
        }
    }

    private static void wrongField(int field) {
        outside(0, field);
        outside(1, field);
        outside(7, field);
    }

    // Places that stand inside a table of the statements although index and field do not.
    private static void bothOutside() {
        outside(-1, 4);
        outside(8, -4);
        outside(-1, -1);
        outside(8, 4);
    }

    private static void emptyProgram() {
        DecentLabels x = new DecentLabels(2, 64);
        for (int i = 0; i < 64; i++) {
            Due.is("getStmt(" + i + ", 0)", x.getStmt(i, 0), -1);
            Due.is("getStmt(" + i + ", 3)", x.getStmt(i, 3), -1);
        }
    }

    private static void fullProgram() {
        for (int capacity = 8; capacity <= 64; capacity++) {
            DecentLabels x = new DecentLabels(2, capacity);
            for (int i = 0; i < capacity; i++) {
                x.addStmt(DecentLabels.K_SET, i % 16, 1000 + i, 0);
            }
            for (int i = 0; i < capacity; i++) {
                stmtIs(x, i, DecentLabels.K_SET, i % 16, 1000 + i, 0);
            }
            stmtIs(x, capacity, -1, -1, -1, -1);
            stmtIs(x, -1, -1, -1, -1, -1);
        }
    }

    private static void followsTheLength() {
        DecentLabels x = new DecentLabels(2, 8);
        x.addStmt(DecentLabels.K_MOVE, 3, 16, 0);
        stmtIs(x, 0, -1, -1, -1, -1);
        x.addStmt(DecentLabels.K_MOVE, 3, 4, 0);
        stmtIs(x, 0, DecentLabels.K_MOVE, 3, 4, 0);
        stmtIs(x, 1, -1, -1, -1, -1);
        x.clearProgram();
        stmtIs(x, 0, -1, -1, -1, -1);
    }

    private static void stmtIs(DecentLabels x, int index, int... due) {
        for (int field = 0; field < 4; field++) {
            Due.is("getStmt(" + index + ", " + field + ")", x.getStmt(index, field), due[field]);
        }
    }

    private static void fields() {
        DecentLabels x = Stage.RUNNING.make();
        stmtIs(x, 0, DecentLabels.K_SET, 1, 7, 0);
        stmtIs(x, 3, DecentLabels.K_OUT, 3, 2, 0);
        stmtIs(x, 4, DecentLabels.K_DECLASSIFY, 4, 5, 0);
        stmtIs(x, 7, DecentLabels.K_END, 0, 0, 0);
        x.addStmt(DecentLabels.K_MUL, 13, 14, 15);
        stmtIs(x, 8, DecentLabels.K_MUL, 13, 14, 15);
    }

    private static void unusedReadAsZero() {
        DecentLabels x = new DecentLabels(2, 64);
        for (int kind = 1; kind <= 13; kind++) {
            x.addStmt(kind, 1, 2, 3);
        }
        stmtIs(x, 0, DecentLabels.K_SET, 1, 2, 0);
        stmtIs(x, 1, DecentLabels.K_MOVE, 1, 2, 0);
        for (int kind = DecentLabels.K_ADD; kind <= DecentLabels.K_EQUAL; kind++) {
            stmtIs(x, kind - 1, kind, 1, 2, 3);
        }
        stmtIs(x, 7, DecentLabels.K_IF, 1, 0, 0);
        stmtIs(x, 8, DecentLabels.K_ELSE, 0, 0, 0);
        stmtIs(x, 9, DecentLabels.K_END, 0, 0, 0);
        stmtIs(x, 10, DecentLabels.K_WHILE, 1, 0, 0);
        stmtIs(x, 11, DecentLabels.K_OUT, 1, 2, 0);
        stmtIs(x, 12, DecentLabels.K_DECLASSIFY, 1, 2, 0);
    }

    private static void constants() {
        int[] any = {-1, -2, 0, 1, 255, 65536, Integer.MIN_VALUE, Integer.MAX_VALUE};
        DecentLabels x = new DecentLabels(2, 8);
        for (int i = 0; i < any.length; i++) {
            x.addStmt(DecentLabels.K_SET, 15, any[i], -1);
            stmtIs(x, i, DecentLabels.K_SET, 15, any[i], 0);
        }
    }

    private static void changesNothing() {
        for (int field = 0; field < 4; field++) {
            int asked = field;
            Calls.changesNothing("getStmt(0, " + field + ")", x -> x.getStmt(0, asked));
            Calls.changesNothing("getStmt(7, " + field + ")", x -> x.getStmt(7, asked));
            Calls.changesNothing("getStmt(8, " + field + ")", x -> x.getStmt(8, asked));
        }
    }
}
