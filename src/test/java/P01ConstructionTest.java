/** Promise 1: construction and initial state. */
public final class P01ConstructionTest {
    public static void main(String[] args) {
        int[] given = {Integer.MIN_VALUE, -1, 0, 1, 2, 3, 5, 7, 8, 9, 100, Integer.MAX_VALUE};
        int[] principals = {2, 2, 2, 2, 2, 3, 5, 7, 8, 8, 8, 8};
        for (int i = 0; i < given.length; i++) {
            principalsAre(given[i], principals[i]);
        }
        int[] asked = {Integer.MIN_VALUE, -5, 0, 7, 8, 9, 40, 63, 64, 65, Integer.MAX_VALUE};
        int[] capacity = {8, 8, 8, 8, 8, 9, 40, 63, 64, 64, 64};
        for (int i = 0; i < asked.length; i++) {
            capacityIs(asked[i], capacity[i]);
        }
        startsEmpty(new DecentLabels(8, 64), 8);
        startsEmpty(new DecentLabels(3, 8), 3);
        objectsAreApart();
        Due.end("P01ConstructionTest");
    }

    private static void principalsAre(int given, int due) {
        DecentLabels x = new DecentLabels(given, 8);
        String of = "new(" + given + ", 8): ";
        Due.is(of + "last principal", x.actsFor(due - 1, due - 1), true);
        Due.is(of + "one too far", x.actsFor(due, due), false);
        Due.is(of + "greatest mask", x.setAuthority((1 << due) - 1), true);
        Due.is(of + "mask too great", x.setAuthority(1 << due), false);
    }

    private static void capacityIs(int asked, int due) {
        DecentLabels x = new DecentLabels(2, asked);
        for (int i = 0; i < due; i++) {
            Due.is("new(2, " + asked + "): addStmt", x.addStmt(DecentLabels.K_END, 0, 0, 0), i);
        }
        Due.is("new(2, " + asked + "): one too many", x.addStmt(DecentLabels.K_END, 0, 0, 0), -1);
    }

    private static void startsEmpty(DecentLabels x, int principals) {
        for (int a = 0; a < principals; a++) {
            for (int b = 0; b < principals; b++) {
                Due.is("actsFor(" + a + ", " + b + ")", x.actsFor(a, b), a == b);
            }
            for (int target = 0; target < 20; target++) {
                Due.is("getPolicy(" + target + ", " + a + ")", x.getPolicy(target, a), -1);
                Due.is("canRead(" + a + ", " + target + ")", x.canRead(a, target), true);
            }
        }
        for (int slot = 0; slot <= 35; slot++) {
            Due.is("getValue(" + slot + ")", x.getValue(slot), 0);
        }
        Due.is("getValue(SLOT_CHECK)", x.getValue(DecentLabels.SLOT_CHECK), -1);
        for (int c = 0; c < 4; c++) {
            Due.is("outCount(" + c + ")", x.outCount(c), 0);
            Due.is("outValue(" + c + ", 0)", x.outValue(c, 0), 0);
        }
        Due.is("getStmt(0, 0)", x.getStmt(0, 0), -1);
        Due.is("start()", x.start(), false);
        Due.is("run(1)", x.run(1), DecentLabels.ST_UNCHECKED);
    }

    private static void objectsAreApart() {
        DecentLabels untouched = new DecentLabels(5, 10);
        Seen before = Seen.of(untouched);
        Samples.busy();
        Due.same("another object's calls", before.changedTo(Seen.of(untouched)), "");
    }
}
