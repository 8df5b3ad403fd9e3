/** Promise 11: getStmt. */
public final class P11GetStmtTest {
    public static void main(String[] args) {
        DecentLabels x = Samples.busy();
        Seen before = Seen.of(x);
        int[] wrongIndexes = {-1, 8, 9, 10, 64, Integer.MIN_VALUE, Integer.MAX_VALUE, 1 << 30};
        int[] wrongFields = {-1, 4, 5, Integer.MIN_VALUE, Integer.MAX_VALUE};
        for (int index : wrongIndexes) {
            for (int field = 0; field < 4; field++) {
                Due.is("getStmt(" + index + ", " + field + ")", x.getStmt(index, field), -1);
            }
        }
        for (int field : wrongFields) {
            Due.is("getStmt(1, " + field + ")", x.getStmt(1, field), -1);
        }
        stmtIs(x, 0, DecentLabels.K_SET, 1, 7, 0);
        stmtIs(x, 3, DecentLabels.K_OUT, 3, 2, 0);
        stmtIs(x, 4, DecentLabels.K_DECLASSIFY, 4, 5, 0);
        stmtIs(x, 6, DecentLabels.K_SET, 3, -1, 0);
        stmtIs(x, 7, DecentLabels.K_END, 0, 0, 0);
        Due.same("getStmt", before.changedTo(Seen.of(x)), "");
        unusedReadAsZero();
        Due.end("P11GetStmtTest");
    }

    private static void stmtIs(DecentLabels x, int index, int kind, int a, int b, int c) {
        int[] due = {kind, a, b, c};
        for (int field = 0; field < 4; field++) {
            Due.is("getStmt(" + index + ", " + field + ")", x.getStmt(index, field), due[field]);
        }
    }

    private static void unusedReadAsZero() {
        DecentLabels x = new DecentLabels(2, 64);
        for (int kind = 1; kind <= 13; kind++) {
            x.addStmt(kind, 1, 2, 3);
        }
        stmtIs(x, 0, DecentLabels.K_SET, 1, 2, 0);
        stmtIs(x, 1, DecentLabels.K_MOVE, 1, 2, 0);
        for (int kind = DecentLabels.K_ADD; kind <= DecentLabels.K_EQUAL; kind++) {
            stmtIs(x, kind - 1, kind, 1, 2, 3);
        }
        stmtIs(x, 7, DecentLabels.K_IF, 1, 0, 0);
        stmtIs(x, 8, DecentLabels.K_ELSE, 0, 0, 0);
        stmtIs(x, 9, DecentLabels.K_END, 0, 0, 0);
        stmtIs(x, 10, DecentLabels.K_WHILE, 1, 0, 0);
        stmtIs(x, 11, DecentLabels.K_OUT, 1, 2, 0);
        stmtIs(x, 12, DecentLabels.K_DECLASSIFY, 1, 2, 0);
    }
}
