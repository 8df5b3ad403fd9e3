/** Promise 7: setAuthority. */
public final class P07SetAuthorityTest {
    public static void main(String[] args) {
        Due.test("refused if mask < 0", () -> Wrong.below(0).forEach(P07SetAuthorityTest::refused));
        Due.test("refused if mask >= 2^P", () -> Wrong.from(32).forEach(P07SetAuthorityTest::refused));
        Due.test("[0,2^P) ends where P says, whatever P is", P07SetAuthorityTest::endOfTheRange);
        Due.test("the mask is stored", P07SetAuthorityTest::everyMask);
        Due.test("RESET happens, and nothing else changes", () -> resets(21));
        Due.test("the least mask, 0: RESET happens", () -> resets(0));
        Due.test("the greatest mask, 2^P-1: RESET happens", () -> resets(31));
        // The stages have authority 0, 1 or 9.
        Due.test("storing the same mask again still causes RESET", () -> {
            resets(9);
            resets(1);
            Calls.resets("the mask it has", true, x -> x.setAuthority(x.getValue(DecentLabels.SLOT_AUTHORITY)));
        });
        Due.end("P07SetAuthorityTest");
    }

    private static void refused(int mask) {
        Calls.refused("setAuthority(" + mask + ")", false, x -> x.setAuthority(mask));
    }

    private static void resets(int mask) {
        Calls.resets("setAuthority(" + mask + ")", true, x -> x.setAuthority(mask), "value 32=" + mask);
    }

    private static void endOfTheRange() {
        for (int principals = 2; principals <= 8; principals++) {
            DecentLabels x = new DecentLabels(principals, 8);
            int greatest = (1 << principals) - 1;
            Due.is("2^P-1", x.setAuthority(greatest), true);
            Due.is("2^P", x.setAuthority(greatest + 1), false);
            Due.is("-1", x.setAuthority(-1), false);
            Due.is("kept", x.getValue(DecentLabels.SLOT_AUTHORITY), greatest);
        }
    }

    private static void everyMask() {
        DecentLabels x = new DecentLabels(8, 8);
        for (int mask = 255; mask >= 0; mask--) {
            Due.is("setAuthority(" + mask + ")", x.setAuthority(mask), true);
            Due.is("stored", x.getValue(DecentLabels.SLOT_AUTHORITY), mask);
        }
    }
}
