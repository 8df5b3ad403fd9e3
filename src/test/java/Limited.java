/** Runs the test that is named, and ends it as failed after a time: a call that never ends is wrong too. */
public final class Limited {
    // Some hundred times what the longest test takes, so that a slow machine does not fail a right class.
    private static final long MILLISECONDS = 300_000;

    private Limited() {
    }

    public static void main(String[] args) throws ReflectiveOperationException {
        Thread watch = new Thread(() -> endLate(args[0]));
        watch.setDaemon(true);
        watch.start();
        Class.forName(args[0]).getMethod("main", String[].class).invoke(null, (Object) new String[0]);
    }

    private static void endLate(String test) {
        try {
            Thread.sleep(MILLISECONDS);
        } catch (InterruptedException nobodyInterrupts) {
            return;
        }
        System.out.println(test + ": a call has not ended");
        Runtime.getRuntime().halt(1);
    }
}
