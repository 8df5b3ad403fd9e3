/** Promise 4: setPolicy. */
public final class P04SetPolicyTest {
    public static void main(String[] args) {
        Due.test("refused if target < 0", () -> Wrong.below(0).forEach(t -> refused(t, 2)));
        Due.test("refused if target >= 20", () -> Wrong.from(20).forEach(t -> refused(t, 2)));
        Due.test("refused if owner < 0", () -> Wrong.below(0).forEach(o -> refused(5, o)));
        Due.test("refused if owner >= P", () -> Wrong.from(5).forEach(o -> refused(5, o)));
        Due.test("refused if readers < -1", () -> Wrong.below(-1).forEach(r -> refused(5, 2, r)));
        Due.test("refused if readers >= 2^P", () -> Wrong.from(32).forEach(r -> refused(5, 2, r)));
        Due.test("refused if all three are wrong", () -> refused(20, 5, 32));
        Due.test("[0,P) and [0,2^P) end where P says, whatever P is", P04SetPolicyTest::endsOfTheRanges);
        Due.test("targets 0 and 19 are taken, and all between", P04SetPolicyTest::everyCellIsApart);
        Due.test("readers == -1: the policy for that owner is removed", P04SetPolicyTest::removes);
        Due.test("readers == -1: if it had none, it still has none", P04SetPolicyTest::nothingToRemove);
        Due.test("the policy is set, replacing any previous one", P04SetPolicyTest::replaces);
        Due.test("a mask of 0 is a valid policy", P04SetPolicyTest::noReaders);
        // All stages but NEW have (2 : 8) and (3 : 0) on v5, and then 0, 1 and 2 read the first alone.
        Due.test("set: RESET happens, and nothing else changes", () ->
            Calls.resets("setPolicy(7, 4, 31)", true, x -> x.setPolicy(7, 4, 31), "policy 7 4=31"));
        Due.test("set again as it was: RESET happens", () ->
            Calls.resets("setPolicy(18, 2, 31)", true, x -> x.setPolicy(18, 2, 31), "policy 18 2=31"));
        Due.test("removed: RESET happens, and nothing else changes", () ->
            Calls.resets("setPolicy(5, 3, -1)", true, x -> x.setPolicy(5, 3, -1),
                "policy 5 3=-1", "canRead 0 5=1", "canRead 1 5=1", "canRead 2 5=1"));
        Due.test("nothing to remove: RESET happens, and nothing else changes", () ->
            Calls.resets("setPolicy(6, 2, -1)", true, x -> x.setPolicy(6, 2, -1)));
        Due.test("policies of other owners and of other targets are unchanged", P04SetPolicyTest::othersStay);
        Due.end("P04SetPolicyTest");
    }

    private static void refused(int target, int owner, int readers) {
        String call = "setPolicy(" + target + ", " + owner + ", " + readers + ")";
        Calls.refused(call, false, x -> x.setPolicy(target, owner, readers));
    }

    private static void refused(int target, int owner) {
        refused(target, owner, 1);
        refused(target, owner, 0);
        refused(target, owner, -1);
    }

    private static void endsOfTheRanges() {
        for (int principals = 2; principals <= 8; principals++) {
            DecentLabels x = new DecentLabels(principals, 8);
            int last = principals - 1;
            int greatest = (1 << principals) - 1;
            Due.is("owner P", x.setPolicy(19, principals, 1), false);
            Due.is("mask 2^P", x.setPolicy(19, last, greatest + 1), false);
            Due.is("mask -2", x.setPolicy(19, last, -2), false);
            Due.is("still none", x.getPolicy(19, last), -1);
            Due.is("owner P-1, mask 2^P-1", x.setPolicy(19, last, greatest), true);
            Due.is("owner P-1, mask 2^P-1, read", x.getPolicy(19, last), greatest);
            Due.is("owner 0, mask 0", x.setPolicy(0, 0, 0), true);
            Due.is("owner 0, mask 0, read", x.getPolicy(0, 0), 0);
        }
    }

    private static DecentLabels fullOfPolicies() {
        DecentLabels x = new DecentLabels(8, 8);
        for (int cell = 0; cell < 160; cell++) {
            Due.is("setPolicy", x.setPolicy(cell / 8, cell % 8, cell), true);
        }
        return x;
    }

    private static void everyCellIsApart() {
        DecentLabels x = fullOfPolicies();
        for (int cell = 0; cell < 160; cell++) {
            Due.is("getPolicy(" + cell / 8 + ", " + cell % 8 + ")", x.getPolicy(cell / 8, cell % 8), cell);
        }
    }

    private static void removes() {
        DecentLabels x = new DecentLabels(3, 8);
        for (int mask = 0; mask < 8; mask++) {
            x.setPolicy(4, 1, mask);
            Due.is("setPolicy(4, 1, -1)", x.setPolicy(4, 1, -1), true);
            Due.is("getPolicy(4, 1)", x.getPolicy(4, 1), -1);
            Due.is("canRead(0, 4)", x.canRead(0, 4), true);
        }
    }

    private static void nothingToRemove() {
        DecentLabels x = new DecentLabels(3, 8);
        Due.is("never set", x.setPolicy(4, 1, -1), true);
        Due.is("still none", x.getPolicy(4, 1), -1);
        x.setPolicy(4, 1, 7);
        x.setPolicy(4, 1, -1);
        Due.is("removed before", x.setPolicy(4, 1, -1), true);
        Due.is("still none", x.getPolicy(4, 1), -1);
        Due.is("nobody is kept out", x.canRead(0, 4), true);
    }

    private static void replaces() {
        DecentLabels x = new DecentLabels(4, 8);
        int[] masks = {0b0011, 0b1100, 0b1111, 0, 0b0110, 15, 1};
        for (int mask : masks) {
            Due.is("setPolicy", x.setPolicy(17, 3, mask), true);
            Due.is("getPolicy", x.getPolicy(17, 3), mask);
        }
    }

    private static void noReaders() {
        DecentLabels x = new DecentLabels(3, 8);
        for (int target = 0; target < 20; target++) {
            Due.is("setPolicy", x.setPolicy(target, 1, 0), true);
            Due.is("getPolicy", x.getPolicy(target, 1), 0);
            Due.is("the owner reads", x.canRead(1, target), true);
            Due.is("the others do not", x.canRead(0, target) || x.canRead(2, target), false);
        }
    }

    // 255 as a reader mask names all, so that no other answer than the policy's own changes.
    private static void othersStay() {
        for (int cell = 0; cell < 160; cell++) {
            DecentLabels x = new DecentLabels(8, 8);
            Seen empty = Seen.of(x);
            x.setPolicy(cell / 8, cell % 8, 255);
            String name = "policy " + cell / 8 + " " + cell % 8;
            Due.same("set in an empty label", empty.changedTo(Seen.of(x)), name + "=255");
            x = fullOfPolicies();
            x.setPolicy(cell / 8, cell % 8, 255);
            Seen full = Seen.of(x);
            x.setPolicy(cell / 8, cell % 8, -1);
            Due.same("removed among others", full.changedTo(Seen.of(x)), name + "=-1");
        }
    }
}
