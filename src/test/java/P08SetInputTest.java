/** Promise 8: setInput. */
public final class P08SetInputTest {
    private static final int[] ANY = {0, 1, -1, 77, 255, 256, 32768, 65536, -65536, Integer.MIN_VALUE,
        Integer.MIN_VALUE + 1, Integer.MAX_VALUE - 1, Integer.MAX_VALUE};

    public static void main(String[] args) {
        Due.test("refused if v < 0", () -> Wrong.below(0).forEach(P08SetInputTest::refused));
        Due.test("refused if v >= 16", () -> Wrong.from(16).forEach(P08SetInputTest::refused));
        Due.test("value, which may be any int, is stored", P08SetInputTest::anyIntIsStored);
        Due.test("nothing else changes: there is no RESET", P08SetInputTest::nothingElseChanges);
        Due.test("the inputs of v0 to v15, each alone", P08SetInputTest::inputsAreApart);
        Due.test("the input is loaded into x[v] only by a later start", P08SetInputTest::loadedByStartOnly);
        Due.test("any int is loaded as it is", P08SetInputTest::anyIntIsLoaded);
        Due.end("P08SetInputTest");
    }

    private static void refused(int v) {
        Calls.refused("setInput(" + v + ", 3)", false, x -> x.setInput(v, 3));
    }

    private static void anyIntIsStored() {
        DecentLabels x = new DecentLabels(2, 8);
        for (int v = 0; v < 16; v++) {
            for (int value : ANY) {
                Due.is("setInput(" + v + ", " + value + ")", x.setInput(v, value), true);
                Due.is("input " + v, x.getValue(DecentLabels.SLOT_INPUT + v), value);
            }
        }
    }

    private static void nothingElseChanges() {
        for (Stage stage : Stage.values()) {
            for (int v = 0; v < 16; v++) {
                DecentLabels x = stage.make();
                Seen due = Seen.of(x).with("value " + (16 + v) + "=-5");
                String call = "setInput(" + v + ", -5) when " + stage;
                Due.is(call, x.setInput(v, -5), true);
                Due.same("not as due after " + call, due.changedTo(Seen.of(x)), "");
            }
        }
    }

    private static void inputsAreApart() {
        DecentLabels x = new DecentLabels(2, 8);
        for (int v = 0; v < 16; v++) {
            Due.is("setInput", x.setInput(v, 1000 + v), true);
        }
        for (int v = 0; v < 16; v++) {
            Due.is("input " + v, x.getValue(16 + v), 1000 + v);
            Due.is("variable " + v, x.getValue(v), 0);
        }
    }

    private static void loadedByStartOnly() {
        DecentLabels x = new DecentLabels(2, 8);
        x.addStmt(DecentLabels.K_OUT, 0, 6, 0);
        x.addStmt(DecentLabels.K_OUT, 0, 6, 0);
        x.setInput(6, 5);
        x.check();
        x.setInput(6, 8);
        Due.is("not before start", x.getValue(6), 0);
        x.start();
        Due.is("at start", x.getValue(6), 8);
        x.run(1);
        x.setInput(6, 13);
        x.run(10);
        Due.is("not while running", x.outValue(0, 1), 8);
        Due.is("nor at the end", x.getValue(6), 8);
        x.start();
        Due.is("at the next start", x.getValue(6), 13);
    }

    private static void anyIntIsLoaded() {
        DecentLabels x = new DecentLabels(2, 8);
        x.check();
        for (int value : ANY) {
            for (int v = 0; v < 16; v++) {
                x.setInput(v, value);
            }
            x.start();
            for (int v = 0; v < 16; v++) {
                Due.is("v" + v, x.getValue(v), value);
            }
        }
    }
}
