/** Ends a test with 1 if a call does not end. */
final class Watchdog {
    private static final long MOST_MILLIS = 300_000;

    private Watchdog() {
    }

    static void start() {
        Thread dog = new Thread(Watchdog::watch);
        dog.setDaemon(true);
        dog.start();
    }

    private static void watch() {
        try {
            Thread.sleep(MOST_MILLIS);
        } catch (InterruptedException e) {
            return;
        }
        System.out.println("a call does not end");
        Runtime.getRuntime().halt(1);
    }
}
