/** A call that does not end is a wrong one: a test that takes far longer than any should is ended as failed. */
final class Watch {
    private static final long LONGEST = 600_000;

    private Watch() {
    }

    static void start(String test) {
        Thread watch = new Thread(() -> {
            try {
                Thread.sleep(LONGEST);
            } catch (InterruptedException e) {
                return;
            }
            System.out.println(test + ": a call does not end");
            Runtime.getRuntime().halt(1);
        });
        watch.setDaemon(true);
        watch.start();
    }
}
