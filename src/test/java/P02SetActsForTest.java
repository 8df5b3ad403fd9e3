/** Promise 2: setActsFor. */
public final class P02SetActsForTest {
    public static void main(String[] args) {
        Due.test("refused if a < 0", () -> Wrong.below(0).forEach(a -> refused(a, 1)));
        Due.test("refused if a >= P", () -> Wrong.from(5).forEach(a -> refused(a, 1)));
        Due.test("refused if b < 0", () -> Wrong.below(0).forEach(b -> refused(0, b)));
        Due.test("refused if b >= P", () -> Wrong.from(5).forEach(b -> refused(0, b)));
        Due.test("refused if neither a nor b is in [0,P)", P02SetActsForTest::bothOutside);
        Due.test("refused if a == b", P02SetActsForTest::sameIsRefused);
        Due.test("[0,P) ends where P does, whatever P is", P02SetActsForTest::endsOfTheRange);
        Due.test("the direct edge is set; no other edge changes", P02SetActsForTest::setsOneEdge);
        Due.test("the direct edge is cleared; no other edge changes", P02SetActsForTest::clearsOneEdge);
        Due.test("a chain by other edges outlives a cleared edge", P02SetActsForTest::chainStays);
        // v5's second policy is (3 : 0), so that 4 reads v5 once it acts for 3.
        Due.test("set: RESET happens; no label, authority, input, variable or statement changes", () ->
            Calls.resets("setActsFor(4, 3, true)", true, x -> x.setActsFor(4, 3, true),
                "actsFor 4 3=1", "canRead 4 5=1"));
        Due.test("cleared: RESET happens; no label, authority, input, variable or statement changes", () ->
            Calls.resets("setActsFor(0, 1, false)", true, x -> x.setActsFor(0, 1, false),
                "actsFor 0 1=0", "actsFor 0 2=0"));
        // All stages but NEW have this edge.
        Due.test("RESET even if the edge was already set", () ->
            Calls.resets("setActsFor(0, 1, true)", true, x -> x.setActsFor(0, 1, true), "actsFor 0 1=1"));
        Due.test("RESET even if the edge was already cleared", () ->
            Calls.resets("setActsFor(3, 1, false)", true, x -> x.setActsFor(3, 1, false)));
        Due.end("P02SetActsForTest");
    }

    private static void refused(int a, int b) {
        Calls.refused("setActsFor(" + a + ", " + b + ", true)", false, x -> x.setActsFor(a, b, true));
        Calls.refused("setActsFor(" + a + ", " + b + ", false)", false, x -> x.setActsFor(a, b, false));
    }

    private static void bothOutside() {
        refused(-1, -1);
        refused(5, 5);
        refused(-1, 5);
        refused(5, -1);
        refused(Integer.MIN_VALUE, Integer.MAX_VALUE);
    }

    private static void sameIsRefused() {
        for (int p = 0; p < 5; p++) {
            refused(p, p);
        }
    }

    private static void endsOfTheRange() {
        for (int principals = 2; principals <= 8; principals++) {
            DecentLabels x = new DecentLabels(principals, 8);
            int last = principals - 1;
            Due.is("a == P", x.setActsFor(principals, 0, true), false);
            Due.is("b == P", x.setActsFor(0, principals, true), false);
            Due.is("from the last to the first", x.setActsFor(last, 0, true), true);
            Due.is("from the last to the first", x.actsFor(last, 0), true);
            Due.is("not the other way", x.actsFor(0, last), false);
            Due.is("from the first to the last", x.setActsFor(0, last, true), true);
            Due.is("from the first to the last", x.actsFor(0, last), true);
        }
    }

    private static void setsOneEdge() {
        for (int edge = 0; edge < 64; edge++) {
            int a = edge / 8;
            int b = edge % 8;
            if (a == b) {
                continue;
            }
            DecentLabels x = new DecentLabels(8, 8);
            Seen before = Seen.of(x);
            Due.is("setActsFor(" + a + ", " + b + ", true)", x.setActsFor(a, b, true), true);
            Due.same("set", before.changedTo(Seen.of(x)), "actsFor " + a + " " + b + "=1");
            Due.is("setActsFor(" + a + ", " + b + ", false)", x.setActsFor(a, b, false), true);
            Due.same("set and cleared", before.changedTo(Seen.of(x)), "");
        }
    }

    // Every edge goes from an even principal to an odd one: there is no chain, so each edge shows.
    private static void clearsOneEdge() {
        for (int edge = 0; edge < 16; edge++) {
            DecentLabels x = new DecentLabels(8, 8);
            for (int other = 0; other < 16; other++) {
                x.setActsFor(other / 4 * 2, other % 4 * 2 + 1, true);
            }
            int a = edge / 4 * 2;
            int b = edge % 4 * 2 + 1;
            Seen before = Seen.of(x);
            Due.is("setActsFor(" + a + ", " + b + ", false)", x.setActsFor(a, b, false), true);
            Due.same("cleared", before.changedTo(Seen.of(x)), "actsFor " + a + " " + b + "=0");
        }
    }

    private static void chainStays() {
        DecentLabels x = new DecentLabels(4, 8);
        x.setActsFor(0, 1, true);
        x.setActsFor(1, 2, true);
        x.setActsFor(0, 2, true);
        x.setActsFor(0, 2, false);
        Due.is("by the chain still", x.actsFor(0, 2), true);
        x.setActsFor(0, 2, true);
        x.setActsFor(1, 2, false);
        Due.is("by the direct edge still", x.actsFor(0, 2), true);
        Due.is("no more", x.actsFor(1, 2), false);
        x.setActsFor(2, 1, true);
        x.setActsFor(1, 2, false);
        Due.is("the other way stays", x.actsFor(2, 1), true);
        x.setActsFor(0, 3, true);
        x.setActsFor(0, 3, true);
        x.setActsFor(0, 3, false);
        Due.is("set twice, cleared once", x.actsFor(0, 3), false);
    }
}
