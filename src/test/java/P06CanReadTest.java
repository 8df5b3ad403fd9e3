/** Promise 6: canRead. */
public final class P06CanReadTest {
    public static void main(String[] args) {
        Due.test("false if p < 0", () -> Wrong.below(0).forEach(p -> isFalse(p, 0)));
        Due.test("false if p >= P", () -> Wrong.from(5).forEach(p -> isFalse(p, 0)));
        Due.test("false if target < 0", () -> Wrong.below(0).forEach(t -> isFalse(0, t)));
        Due.test("false if target >= 20", () -> Wrong.from(20).forEach(t -> isFalse(0, t)));
        Due.test("false for p == P though the label is empty, whatever P is", P06CanReadTest::endOfTheRange);
        Due.test("for a target with the empty label it answers true", P06CanReadTest::emptyLabel);
        Due.test("the owner is always an effective reader", P06CanReadTest::ownerReads);
        Due.test("the readers of the mask, and no other", P06CanReadTest::everyMask);
        Due.test("p must be in EFF(o,R) for every owner o with a policy", P06CanReadTest::everyPolicyCounts);
        Due.test("who acts for the owner or for a reader reads", P06CanReadTest::actorsRead);
        Due.test("under the current hierarchy", P06CanReadTest::followsTheHierarchy);
        Due.test("the label alone decides: authority and other labels do not", P06CanReadTest::labelAlone);
        Due.test("it changes nothing", P06CanReadTest::changesNothing);
        Due.end("P06CanReadTest");
    }

    private static void isFalse(int p, int target) {
        Calls.refused("canRead(" + p + ", " + target + ")", false, x -> x.canRead(p, target));
    }

    private static void endOfTheRange() {
        for (int principals = 2; principals <= 8; principals++) {
            DecentLabels x = new DecentLabels(principals, 8);
            Due.is("p == P", x.canRead(principals, 0), false);
            Due.is("p == P-1", x.canRead(principals - 1, 0), true);
            Due.is("target 19", x.canRead(principals - 1, 19), true);
            Due.is("target 20", x.canRead(principals - 1, 20), false);
        }
    }

    private static void readersAre(String of, DecentLabels x, int target, int readers) {
        for (int p = 0; p < 8; p++) {
            boolean due = (readers >> p & 1) == 1;
            Due.is(of + ": canRead(" + p + ", " + target + ")", x.canRead(p, target), due);
        }
    }

    private static void emptyLabel() {
        DecentLabels x = new DecentLabels(8, 8);
        x.setPolicy(7, 3, 0);
        for (int target = 0; target < 20; target++) {
            if (target != 7) {
                readersAre("another target has a policy", x, target, 255);
            }
        }
        x.setPolicy(7, 3, -1);
        readersAre("empty again", x, 7, 255);
    }

    private static void ownerReads() {
        for (int owner = 0; owner < 8; owner++) {
            DecentLabels x = new DecentLabels(8, 8);
            for (int target = 0; target < 20; target++) {
                x.setPolicy(target, owner, 0);
                readersAre("no readers", x, target, 1 << owner);
                x.setPolicy(target, owner, 255 - (1 << owner));
                readersAre("all the others", x, target, 255);
            }
        }
    }

    private static void everyMask() {
        DecentLabels x = new DecentLabels(8, 8);
        for (int mask = 0; mask < 256; mask++) {
            x.setPolicy(mask % 20, mask % 8, mask);
            readersAre("(" + mask % 8 + " : " + mask + ")", x, mask % 20, mask | 1 << mask % 8);
            x.setPolicy(mask % 20, mask % 8, -1);
        }
    }

    private static void everyPolicyCounts() {
        DecentLabels x = new DecentLabels(4, 8);
        x.setPolicy(3, 0, 0b0110);
        x.setPolicy(3, 1, 0b1100);
        readersAre("two owners", x, 3, 0b0110);
        x.setPolicy(3, 3, 0b0010);
        readersAre("three owners", x, 3, 0b0010);
        x.setPolicy(3, 2, 0);
        readersAre("nobody", x, 3, 0);
        // All eight owners let all read, but for one that lets nobody.
        for (int owner = 0; owner < 8; owner++) {
            x = new DecentLabels(8, 8);
            for (int other = 0; other < 8; other++) {
                x.setPolicy(19, other, other == owner ? 0 : 255);
            }
            readersAre("one strict owner of eight", x, 19, 1 << owner);
        }
    }

    private static void actorsRead() {
        DecentLabels x = new DecentLabels(6, 8);
        x.setActsFor(4, 5, true);
        x.setActsFor(5, 0, true);
        x.setActsFor(3, 1, true);
        x.setPolicy(0, 0, 0b000010);
        readersAre("actors of owner and reader", x, 0, 0b111011);
        x.setPolicy(1, 3, 0);
        readersAre("not those acted for", x, 1, 0b001000);
        x.setPolicy(2, 1, 0b010000);
        readersAre("reader's inferiors do not read", x, 2, 0b011010);
    }

    private static void followsTheHierarchy() {
        DecentLabels x = new DecentLabels(3, 8);
        x.setPolicy(16, 0, 0);
        Due.is("before", x.canRead(2, 16), false);
        x.setActsFor(1, 0, true);
        x.setActsFor(2, 1, true);
        Due.is("by a chain", x.canRead(2, 16), true);
        x.setActsFor(1, 0, false);
        Due.is("chain cut", x.canRead(2, 16), false);
    }

    private static void labelAlone() {
        DecentLabels x = new DecentLabels(8, 8);
        for (int target = 0; target < 20; target++) {
            x.setPolicy(target, 2, target == 9 ? 0b00010000 : 0);
        }
        for (int mask = 0; mask < 256; mask++) {
            x.setAuthority(mask);
            readersAre("authority " + mask, x, 9, 0b00010100);
            readersAre("authority " + mask, x, 10, 0b00000100);
        }
    }

    private static void changesNothing() {
        Calls.changesNothing("canRead(0, 5)", x -> x.canRead(0, 5));
        Calls.changesNothing("canRead(3, 5)", x -> x.canRead(3, 5));
        Calls.changesNothing("canRead(4, 19)", x -> x.canRead(4, 19));
        Calls.changesNothing("canRead(5, 0)", x -> x.canRead(5, 0));
        Calls.changesNothing("canRead(0, 20)", x -> x.canRead(0, 20));
    }
}
