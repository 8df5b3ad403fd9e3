/** Promise 10: clearProgram. */
public final class P10ClearProgramTest {
    public static void main(String[] args) {
        DecentLabels x = Samples.busy();
        Seen before = Seen.of(x);
        x.clearProgram();
        StringBuilder gone = new StringBuilder();
        for (int i = 0; i < 8; i++) {
            for (int field = 0; field < 4; field++) {
                if (x.getStmt(i, field) != -1) {
                    gone.append("stmt " + i + " " + field + " is still there");
                }
            }
        }
        Due.same("statements", gone.toString(), "");
        String other = before.changedTo(Seen.of(x)).replaceAll("stmt \\d+ \\d=-1, ", "");
        Due.same("clearProgram", other, Samples.RESET_OF_BUSY.replace("value 34", "value 33=0, value 34"));

        Seen cleared = Seen.of(x);
        x.clearProgram();
        Due.same("once more", cleared.changedTo(Seen.of(x)), "");

        Due.is("check()", x.check(), 0);
        x.clearProgram();
        Due.is("unchecked again", x.getValue(DecentLabels.SLOT_STATUS), DecentLabels.ST_UNCHECKED);
        Due.is("start()", x.start(), false);

        for (int i = 0; i < 10; i++) {
            Due.is("room again", x.addStmt(DecentLabels.K_ELSE, 0, 0, 0), i);
        }
        Due.is("no more room", x.addStmt(DecentLabels.K_ELSE, 0, 0, 0), -1);
        Due.is("old operands are gone", x.getStmt(0, 1) + x.getStmt(0, 2) + x.getStmt(1, 2), 0);
        Due.end("P10ClearProgramTest");
    }
}
