/** Promise 1: construction and initial state. */
public final class P01ConstructionTest {
    public static void main(String[] args) {
        Due.test("P: below 2 becomes 2", () -> Wrong.below(2).forEach(n -> sizesAre(n, 20, 2, 20)));
        Due.test("P: above 8 becomes 8", () -> Wrong.from(9).forEach(n -> sizesAre(n, 20, 8, 20)));
        Due.test("P is principals where it is in [2,8]", P01ConstructionTest::principalsInRange);
        Due.test("capacity: below 8 becomes 8", () -> Wrong.below(8).forEach(n -> sizesAre(3, n, 3, 8)));
        Due.test("capacity: above 64 becomes 64", () -> Wrong.from(65).forEach(n -> sizesAre(3, n, 3, 64)));
        Due.test("capacity is maxStatements where it is in [8,64]", P01ConstructionTest::capacityInRange);
        Due.test("any int is accepted, in both places at once", P01ConstructionTest::bothOutside);
        Due.test("no direct edges, so each principal acts only for itself", P01ConstructionTest::noEdges);
        Due.test("no policies on any target (all labels empty)", P01ConstructionTest::noPolicies);
        Due.test("authority 0", () -> slotsAre(DecentLabels.SLOT_AUTHORITY, 1, 0));
        Due.test("empty program (length 0)", P01ConstructionTest::noProgram);
        Due.test("all variables 0", () -> slotsAre(0, 16, 0));
        Due.test("all inputs 0", P01ConstructionTest::inputsAreZero);
        Due.test("all channels empty", P01ConstructionTest::noOutput);
        Due.test("position 0", () -> slotsAre(DecentLabels.SLOT_POSITION, 1, 0));
        Due.test("status ST_UNCHECKED", P01ConstructionTest::unchecked);
        Due.test("last check answer -1", () -> slotsAre(DecentLabels.SLOT_CHECK, 1, -1));
        Due.test("one object's calls do not reach another", P01ConstructionTest::objectsAreApart);
        Due.end("P01ConstructionTest");
    }

    private static void principalsInRange() {
        for (int principals = 2; principals <= 8; principals++) {
            sizesAre(principals, 20, principals, 20);
        }
    }

    private static void capacityInRange() {
        for (int maxStatements = 8; maxStatements <= 64; maxStatements++) {
            sizesAre(3, maxStatements, 3, maxStatements);
        }
    }

    private static void bothOutside() {
        sizesAre(Integer.MIN_VALUE, Integer.MIN_VALUE, 2, 8);
        sizesAre(Integer.MIN_VALUE, Integer.MAX_VALUE, 2, 64);
        sizesAre(Integer.MAX_VALUE, Integer.MIN_VALUE, 8, 8);
        sizesAre(Integer.MAX_VALUE, Integer.MAX_VALUE, 8, 64);
        sizesAre(0, 0, 2, 8);
        sizesAre(-1, -1, 2, 8);
        sizesAre(1, 7, 2, 8);
        sizesAre(9, 65, 8, 64);
    }

    private static void sizesAre(int principals, int maxStatements, int duePrincipals, int dueCapacity) {
        DecentLabels x = new DecentLabels(principals, maxStatements);
        String of = "new(" + principals + ", " + maxStatements + "): ";
        for (int p = -2; p < 40; p++) {
            Due.is(of + "actsFor(" + p + ", " + p + ")", x.actsFor(p, p), p >= 0 && p < duePrincipals);
        }
        Due.is(of + "greatest mask", x.setAuthority((1 << duePrincipals) - 1), true);
        Due.is(of + "mask too great", x.setAuthority(1 << duePrincipals), false);
        for (int i = 0; i < 70; i++) {
            int due = i < dueCapacity ? i : -1;
            Due.is(of + "addStmt number " + i, x.addStmt(DecentLabels.K_END, 0, 0, 0), due);
        }
    }

    private static DecentLabels[] ofEverySize() {
        DecentLabels[] made = new DecentLabels[7];
        for (int i = 0; i < made.length; i++) {
            made[i] = new DecentLabels(2 + i, 64 - i);
        }
        return made;
    }

    private static void slotsAre(int first, int count, int due) {
        for (DecentLabels x : ofEverySize()) {
            for (int slot = first; slot < first + count; slot++) {
                Due.is("getValue(" + slot + ")", x.getValue(slot), due);
            }
        }
    }

    private static void noEdges() {
        for (int principals = 2; principals <= 8; principals++) {
            DecentLabels x = new DecentLabels(principals, 8);
            for (int a = 0; a < principals; a++) {
                for (int b = 0; b < principals; b++) {
                    Due.is("actsFor(" + a + ", " + b + ")", x.actsFor(a, b), a == b);
                }
            }
        }
    }

    private static void noPolicies() {
        for (int principals = 2; principals <= 8; principals++) {
            DecentLabels x = new DecentLabels(principals, 8);
            for (int target = 0; target < 20; target++) {
                for (int p = 0; p < principals; p++) {
                    Due.is("getPolicy(" + target + ", " + p + ")", x.getPolicy(target, p), -1);
                    Due.is("canRead(" + p + ", " + target + ")", x.canRead(p, target), true);
                }
            }
        }
    }

    private static void noProgram() {
        slotsAre(DecentLabels.SLOT_LENGTH, 1, 0);
        for (DecentLabels x : ofEverySize()) {
            Due.is("getStmt(0, 0)", x.getStmt(0, 0), -1);
            Due.is("check()", x.check(), 0);
        }
    }

    private static void inputsAreZero() {
        slotsAre(DecentLabels.SLOT_INPUT, 16, 0);
        DecentLabels x = new DecentLabels(2, 8);
        x.check();
        x.start();
        for (int v = 0; v < 16; v++) {
            Due.is("v" + v + " after start", x.getValue(v), 0);
        }
    }

    private static void noOutput() {
        for (DecentLabels x : ofEverySize()) {
            for (int c = 0; c < 4; c++) {
                Due.is("outCount(" + c + ")", x.outCount(c), 0);
                for (int i = 0; i < 16; i++) {
                    Due.is("outValue(" + c + ", " + i + ")", x.outValue(c, i), 0);
                }
            }
        }
    }

    private static void unchecked() {
        slotsAre(DecentLabels.SLOT_STATUS, 1, DecentLabels.ST_UNCHECKED);
        for (DecentLabels x : ofEverySize()) {
            Due.is("start()", x.start(), false);
            Due.is("run(1)", x.run(1), DecentLabels.ST_UNCHECKED);
        }
    }

    private static void objectsAreApart() {
        DecentLabels untouched = Stage.NEW.make();
        Seen before = Seen.of(untouched);
        for (Stage stage : Stage.values()) {
            stage.make();
        }
        Due.same("changed by another object's calls", before.changedTo(Seen.of(untouched)), "");
    }
}
