/** Promise 12: DECLASSIFY in the check rules, with FLOW WITH AUTHORITY. */
public final class P12DeclassifyTest {
    private static final int FLOW = DecentLabels.ERR_FLOW;
    private static final int AUTHORITY = DecentLabels.ERR_AUTHORITY;
    private static final int[] DROP = Programs.declassify(1, 0);

    public static void main(String[] args) {
        Due.test("no authority: DECLASSIFY is as MOVE, but for ERR_AUTHORITY", P12DeclassifyTest::noAuthority);
        Due.test("some principal a with bit a set in A has a actsfor o1", P12DeclassifyTest::authorityOfEach);
        Due.test("a may act for o1 by a chain", P12DeclassifyTest::authorityByChains);
        Due.test("for every policy (o1:R1) of L1", P12DeclassifyTest::everyPolicyCounts);
        Due.test("or there is a policy (o2:R2) in L2 as required by FLOW", P12DeclassifyTest::keptPolicies);
        Due.test("first pc <= L(a), else ERR_FLOW: authority does not loosen it", P12DeclassifyTest::pcFirst);
        Due.test("then L(b) <=A L(a), else ERR_AUTHORITY: without the pc", P12DeclassifyTest::pcIsNotJoined);
        Due.test("authority counts at declassify statements alone", P12DeclassifyTest::elsewhereNoAuthority);
        Due.test("with the authority of the moment", P12DeclassifyTest::authorityOfTheMoment);
        Due.end("P12DeclassifyTest");
    }

    private static void noAuthority() {
        DecentLabels x = new DecentLabels(3, 8);
        Programs.passes("public to public", x, DROP);
        x.setPolicy(0, 0, 0b010);
        Programs.checks("down", x, AUTHORITY, 0, DROP);
        x.setPolicy(1, 0, 0b110);
        Programs.checks("a reader more", x, AUTHORITY, 0, DROP);
        x.setPolicy(1, 0, 0b010);
        Programs.passes("across", x, DROP);
        x.setPolicy(1, 0, 0b000);
        Programs.passes("up", x, DROP);
        x.setPolicy(0, 0, -1);
        Programs.passes("from public", x, DROP);
    }

    private static void authorityOfEach() {
        for (int owner = 0; owner < 8; owner++) {
            DecentLabels x = new DecentLabels(8, 8);
            x.setPolicy(0, owner, 0);
            x.setAuthority(1 << owner);
            Programs.passes("owner " + owner + " alone", x, DROP);
            x.setAuthority(255);
            Programs.passes("all", x, DROP);
            x.setAuthority(255 - (1 << owner));
            Programs.checks("all but owner " + owner, x, AUTHORITY, 0, DROP);
            // A reader's authority is not the owner's.
            x.setPolicy(0, owner, 255);
            Programs.checks("the readers", x, AUTHORITY, 0, DROP);
        }
    }

    private static void authorityByChains() {
        DecentLabels x = new DecentLabels(4, 8);
        x.setPolicy(0, 0, 0);
        x.setAuthority(0b1000);
        x.setActsFor(3, 2, true);
        Programs.checks("half a chain", x, AUTHORITY, 0, DROP);
        x.setActsFor(2, 0, true);
        Programs.passes("a chain", x, DROP);
        x.setAuthority(0b0100);
        Programs.passes("the middle of the chain", x, DROP);
        x.setAuthority(0b0010);
        Programs.checks("a stranger", x, AUTHORITY, 0, DROP);
        x.setActsFor(0, 1, true);
        Programs.checks("an inferior", x, AUTHORITY, 0, DROP);
        x.setActsFor(1, 3, true);
        Programs.passes("a cycle", x, DROP);
    }

    private static void everyPolicyCounts() {
        DecentLabels x = new DecentLabels(4, 8);
        x.setPolicy(0, 0, 0);
        x.setPolicy(0, 2, 0);
        for (int mask = 0; mask < 16; mask++) {
            x.setAuthority(mask);
            boolean both = (mask & 0b0101) == 0b0101;
            Programs.checks("authority " + mask, x, both ? 0 : AUTHORITY, 0, DROP);
        }
        x.setAuthority(0b1000);
        x.setActsFor(3, 2, true);
        Programs.checks("a superior of one", x, AUTHORITY, 0, DROP);
        x.setActsFor(3, 0, true);
        Programs.passes("a superior of both", x, DROP);
    }

    private static void keptPolicies() {
        DecentLabels x = new DecentLabels(4, 8);
        x.setPolicy(0, 0, 0);
        x.setPolicy(0, 2, 0b0010);
        x.setAuthority(0b0001);
        Programs.checks("the second is not kept", x, AUTHORITY, 0, DROP);
        x.setPolicy(1, 2, 0b0010);
        Programs.passes("the second is kept", x, DROP);
        x.setPolicy(1, 2, 0b0011);
        Programs.checks("but not with a reader more", x, AUTHORITY, 0, DROP);
        x.setPolicy(1, 2, -1);
        x.setPolicy(1, 3, 0);
        Programs.checks("a stranger keeps it", x, AUTHORITY, 0, DROP);
        x.setActsFor(3, 2, true);
        Programs.passes("a superior keeps it", x, DROP);
    }

    private static int[][] inside(int condition, int[] statement) {
        return new int[][] {Programs.when(condition), statement, Programs.END};
    }

    private static void pcFirst() {
        DecentLabels x = new DecentLabels(3, 8);
        x.setPolicy(0, 0, 0);
        for (int mask = 0; mask < 8; mask++) {
            x.setAuthority(mask);
            Programs.checks("from a secret, authority " + mask, x, FLOW, 1, inside(0, DROP));
            Programs.checks("from a public, authority " + mask, x, FLOW, 1, inside(0, Programs.declassify(1, 2)));
        }
        x.setPolicy(2, 1, 0);
        x.setPolicy(3, 0, 0);
        x.setAuthority(0);
        Programs.checks("pc passes, authority fails", x, AUTHORITY, 1, inside(0, Programs.declassify(3, 2)));
        x.setAuthority(0b010);
        Programs.passes("both pass", x, inside(0, Programs.declassify(3, 2)));
    }

    // Owner 0 lets 1 read v4 and 2 read v5: their join lets neither, but they are tested one by one.
    private static void pcIsNotJoined() {
        DecentLabels x = new DecentLabels(4, 8);
        x.setPolicy(4, 0, 0b0010);
        x.setPolicy(5, 0, 0b0110);
        x.setPolicy(6, 0, 0b0010);
        Programs.passes("pc (0:{1,2}), v4 (0:{1})", x, inside(5, Programs.declassify(6, 4)));
        Programs.passes("pc (0:{1}), v5 (0:{1,2})", x, inside(4, Programs.declassify(6, 5)));
        x.setPolicy(5, 0, 0b0100);
        Programs.checks("pc (0:{2})", x, FLOW, 1, inside(5, Programs.declassify(6, 4)));
        Programs.checks("v5 (0:{2})", x, AUTHORITY, 1, inside(4, Programs.declassify(6, 5)));
        x.setAuthority(1);
        Programs.passes("v5 (0:{2}), with authority", x, inside(4, Programs.declassify(6, 5)));
        // Two superiors keep a policy each for owner 0; the join (0:{}) is kept by neither.
        x = new DecentLabels(6, 8);
        x.setActsFor(4, 0, true);
        x.setActsFor(5, 0, true);
        x.setPolicy(0, 0, 0b000010);
        x.setPolicy(1, 0, 0b000100);
        x.setPolicy(2, 4, 0b000010);
        x.setPolicy(2, 5, 0b000100);
        Programs.passes("(4:{1}) keeps the pc, (5:{2}) keeps v1", x, inside(0, Programs.declassify(2, 1)));
        Programs.checks("as a MOVE they are joined", x, FLOW, 1, inside(0, Programs.move(2, 1)));
    }

    private static void elsewhereNoAuthority() {
        DecentLabels x = new DecentLabels(3, 8);
        x.setPolicy(0, 0, 2);
        x.setAuthority(0b111);
        Programs.passes("declassify", x, DROP);
        Programs.checks("set", x, FLOW, 1, inside(0, Programs.set(1, 0)));
        Programs.checks("move", x, FLOW, 0, Programs.move(1, 0));
        Programs.checks("out", x, FLOW, 0, Programs.out(0, 0));
        for (int kind = DecentLabels.K_ADD; kind <= DecentLabels.K_EQUAL; kind++) {
            Programs.checks("calc", x, FLOW, 0, Programs.calc(kind, 1, 0, 0));
        }
        Programs.checks("after a declassify", x, FLOW, 1, DROP, Programs.move(1, 0));
        Programs.passes("what was declassified is public", x, DROP, Programs.out(0, 1));
    }

    private static void authorityOfTheMoment() {
        DecentLabels x = new DecentLabels(3, 8);
        x.setPolicy(0, 0, 0);
        Programs.checks("none yet", x, AUTHORITY, 0, DROP);
        x.setAuthority(2);
        Due.is("not the owner's", x.check(), AUTHORITY * 256);
        x.setActsFor(1, 0, true);
        Due.is("a superior's", x.check(), 0);
        x.setAuthority(8);
        Due.is("a refused mask leaves the answer", x.getValue(DecentLabels.SLOT_CHECK), 0);
        x.setActsFor(1, 0, false);
        Due.is("no superior's", x.check(), AUTHORITY * 256);
        x.setAuthority(1);
        Due.is("the owner's", x.check(), 0);
        x.setAuthority(0);
        Due.is("none again", x.check(), AUTHORITY * 256);
    }
}
